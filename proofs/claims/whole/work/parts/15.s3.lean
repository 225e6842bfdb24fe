-- reads over keys and transactions
def pBef (a : Nat) (sn : Int32) (ws : LW) : CT → Bool
  | (b, lv, _, se, sp, _, _, rs, _) => !decide (b = a) && decide (lv = 1) && (decide (se = 0) || (decide (se = 1) && decide (sn < sp))) && rany rs ws
theorem b01_f {b : Bool} (h : b01 b = 0) : b = false := by cases b <;> simp_all [b01]
theorem b01_t {b : Bool} (h : ¬ b01 b = 0) : b = true := by cases b <;> simp_all [b01]
theorem w_S_hasBefore {K : Cx} {g : GG} {N0 : Nat → Prop} {h : Mp} {post : Option Value → Mp → Prop} {xp : String → Mp → Prop} {mc ms : Nat} (X : Fx K g N0 b_S_hasBefore 6 "SnapshotStore" { frames := 2, cells := mc, slots := ms, locals := 44 } (some .boolean) "hasBefore" []) {s a ta : Nat} {lv sn se sp ha : Int32} {rg pl : Option Nat} {ws : LW} {f : Nat → Option Nat} {tl : List CT} (ht : h a = some (cTx lv sn se sp ha (ptr ws) rg pl)) (hw : chain cWr h ws) (hq : h ta = some (qarr g f)) (hf : TA f tl) (hu : ∀ t ∈ tl, txOk h t) : ∀ (k j : Nat) (z : Option Value), j + k = 120 → post (some (.int (b01 ((tl.drop j).any (pBef a sn ws))))) h → V K g N0 6 (RQ K g N0 post xp mc ms)  h 0 0 11 [some (va_rf (some s)), some (va_rf (some a)), some (va_rf (some ta)), some (.int (nI 120)), some (.int (nI j)), z] [] := by
  intro k
  induction k with
  | zero =>
    intro j z hj hp
    have hj : j = 120 := by omega
    subst hj
    refine il_4 X d_S_hasBefore_11 ?_
    refine il_3 X d_S_hasBefore_13 ?_
    refine V_icmp_ge (tgt := 83) X d_S_hasBefore_14 (by decide) (fun c_14 => ?_) (fun c_14 => ?_)
    · refine V_iconst (v := 0) X d_S_hasBefore_83 (by decide) ?_
      refine V_zret X rfl (by first | rfl | exact nr_z (by assumption)) d_S_hasBefore_84 (by first | omega | decide | (dsimp only; first | done | omega)) (by first | omega | decide | (dsimp only; first | done | omega)) ?_
      rwa [List.drop_eq_nil_of_le hf.1] at hp
    · exact absurd (Int32.le_refl _) c_14
  | succ k ih =>
    intro j z hj hp
    refine il_4 X d_S_hasBefore_11 ?_
    refine il_3 X d_S_hasBefore_13 ?_
    refine V_icmp_ge (tgt := 83) X d_S_hasBefore_14 (by decide) (fun c_14 => ?_) (fun c_14 => ?_)
    · exact absurd c_14 (nI_ge (by omega) (by decide))
    · refine al_2 X d_S_hasBefore_17 ?_
      refine il_4 X d_S_hasBefore_18 ?_
      refine V_aald X hq rfl (show j < 120 by omega) (by decide) d_S_hasBefore_20 ?_
      rw [hf.2 j (by omega)]
      refine as_5 X d_S_hasBefore_21 rfl (by first | exact okp_n | exact okp_i | exact okp_r) ?_
      refine al_5 X d_S_hasBefore_23 ?_
      cases hu2 : tl[j]? with
      | none =>
        obtain ⟨e1, e2⟩ := drop_n hu2
        refine V_ifnull (tgt := 77) X d_S_hasBefore_25 (by decide) (fun c_25 => ?_) (fun b_25 c_25 => ?_)
        · refine ic_4 (v := (nI (j+1))) X d_S_hasBefore_77 (nI_1 j) rfl (by first | exact okp_n | exact okp_i | exact okp_r) ?_
          refine V_goto (tgt := 11) X d_S_hasBefore_80 (by decide) ?_
          exact ih (j + 1) _ (by omega) (by rwa [e2, ← e1])
        · cases c_25
      | some u =>
        have hm := hu u (List.mem_of_getElem? hu2)
        have e1 := drop_s hu2
        obtain ⟨b, lv2, sn2, se2, sp2, ha2, ws2, rs2, ps2⟩ := u
        obtain ⟨hm1, hm2, hm3, hm4⟩ := hm
        dsimp only [Option.map_some]
        have skip : pBef a sn ws (b, lv2, sn2, se2, sp2, ha2, ws2, rs2, ps2) = false → V K g N0 6 (RQ K g N0 post xp mc ms) h 0 0 77 [some (va_rf (some s)), some (va_rf (some a)), some (va_rf (some ta)), some (.int (nI 120)), some (.int (nI j)), some (va_rf (some b))] [] := by
          intro ef
          refine ic_4 (v := (nI (j+1))) X d_S_hasBefore_77 (nI_1 j) rfl (by first | exact okp_n | exact okp_i | exact okp_r) ?_
          refine V_goto (tgt := 11) X d_S_hasBefore_80 (by decide) ?_
          refine ih (j + 1) _ (by omega) ?_
          rwa [e1, List.any_cons, ef, Bool.false_or] at hp
        refine V_ifnull (tgt := 77) X d_S_hasBefore_25 (by decide) (fun c_25 => ?_) (fun b_25 c_25 => ?_)
        · cases c_25
        · refine al_5 X d_S_hasBefore_28 ?_
          refine al_1 X d_S_hasBefore_30 ?_
          refine V_acmp_eq (tgt := 77) X d_S_hasBefore_31 (by decide) (fun c_31 => ?_) (fun c_31 => ?_)
          · exact skip (by cases c_31; simp [pBef])
          · have e5 : ¬ b = a := fun e => c_31 (by rw [e])
            refine al_5 X d_S_hasBefore_34 ?_
            refine gf_S_121 X (by assumption) d_S_hasBefore_36 ?_
            refine V_iconst (v := 1) X d_S_hasBefore_39 (by decide) ?_
            refine V_icmp_ne (tgt := 77) X d_S_hasBefore_40 (by decide) (fun c_40 => ?_) (fun c_40 => ?_)
            · exact skip (by simp [pBef, c_40])
            · have rest : (decide (se2 = 0) || (decide (se2 = 1) && decide (sn < sp2))) = true → V K g N0 6 (RQ K g N0 post xp mc ms) h 0 0 63 [some (va_rf (some s)), some (va_rf (some a)), some (va_rf (some ta)), some (.int (nI 120)), some (.int (nI j)), some (va_rf (some b))] [] := by
                intro e3
                refine al_5 X d_S_hasBefore_63 ?_
                refine al_1 X d_S_hasBefore_65 ?_
                refine gf_S_92 X (by assumption) d_S_hasBefore_66 ?_
                refine cl_S_250 X (c_Tx_hasReadAnyOf _ g N0 h hm1 hm3 hw) (by assumption) d_S_hasBefore_69 (by refine ⟨?_, ?_⟩ <;> first | decide | (dsimp only; first | done | omega)) (by first | decide | (simp only [List.map, rf_cat, cat_i, cat_l, List.sum_cons, List.sum_nil]; first | done | decide | omega)) ⟨(by first | omega | decide | (dsimp only; first | done | omega)), (by first | omega | decide | (dsimp only; first | done | omega))⟩ (fun _ _ z => z.elim) ?_
                rintro r h2 ⟨rfl, rfl⟩
                refine V_if_eq (tgt := 77) X d_S_hasBefore_72 (by decide) (fun c_72 => ?_) (fun c_72 => ?_)
                · have e4 := b01_f c_72
                  exact skip (by simp only [pBef, e4, Bool.and_false])
                · have e4 := b01_t c_72
                  refine V_iconst (v := 1) X d_S_hasBefore_75 (by decide) ?_
                  refine V_zret X rfl (by first | rfl | exact nr_z (by assumption)) d_S_hasBefore_76 (by first | omega | decide | (dsimp only; first | done | omega)) (by first | omega | decide | (dsimp only; first | done | omega)) ?_
                  have ef : pBef a sn ws (b, lv2, sn2, se2, sp2, ha2, ws2, rs2, ps2) = true := by simp only [pBef, e3, e4, Bool.and_true, Bool.and_eq_true, decide_eq_true_eq]; exact ⟨by simp [e5], c_40⟩
                  rwa [e1, List.any_cons, ef, Bool.true_or] at hp
              refine al_5 X d_S_hasBefore_43 ?_
              refine gf_S_160 X (by assumption) d_S_hasBefore_45 ?_
              refine V_if_eq (tgt := 63) X d_S_hasBefore_48 (by decide) (fun c_48 => ?_) (fun c_48 => ?_)
              · exact rest (by simp [c_48])
              · refine al_5 X d_S_hasBefore_51 ?_
                refine al_1 X d_S_hasBefore_53 ?_
                refine gf_S_166 X (by assumption) d_S_hasBefore_54 ?_
                refine cl_S_247 X (c_Tx_committedAbove _ g N0 h sn hm1) (by assumption) d_S_hasBefore_57 (by refine ⟨?_, ?_⟩ <;> first | decide | (dsimp only; first | done | omega)) (by first | decide | (simp only [List.map, rf_cat, cat_i, cat_l, List.sum_cons, List.sum_nil]; first | done | decide | omega)) ⟨(by first | omega | decide | (dsimp only; first | done | omega)), (by first | omega | decide | (dsimp only; first | done | omega))⟩ (fun _ _ z => z.elim) ?_
                rintro r h' ⟨rfl, rfl⟩
                refine V_if_eq (tgt := 77) X d_S_hasBefore_60 (by decide) (fun c_60 => ?_) (fun c_60 => ?_)
                · have e2 := b01_f c_60
                  exact skip (by simp only [pBef, e2, decide_eq_false c_48, Bool.or_false, Bool.and_false, Bool.false_and])
                · have e2 := b01_t c_60
                  exact rest (by rw [e2, Bool.or_true])
theorem c_S_hasBefore (l : Launch) (g : GG) (N0 : Nat → Prop) (h : Mp) {s a ta : Nat} {bg ck sf nt : Int32} {le : Option Nat} {lv sn se sp ha : Int32} {rg pl : Option Nat} {ws : LW} {f : Nat → Option Nat} {tl : List CT} (hs : h s = some (cS (some ta) bg ck sf nt le)) (ht : h a = some (cTx lv sn se sp ha (ptr ws) rg pl)) (hw : chain cWr h ws) (hq : h ta = some (qarr g f)) (hf : TA f tl) (hu : ∀ t ∈ tl, txOk h t) : Ct l y_S_hasBefore b_S_hasBefore 6 (some .boolean) 2 44 0 0 g N0 h [va_rf (some s), va_rf (some a)] (pI (fun r h' => r = b01 (tl.any (pBef a sn ws)) ∧ h' = h)) nox := by
  refine Ct_of "SnapshotStore" "hasBefore" [some (va_rf (some s)), some (va_rf (some a)), none, none, none, none] (by decide) rfl rfl (by simp [lg_sl, rf_cat, cat_i, cat_l]) (by simp [toL, lv_args, rf_cat, cat_i, cat_l]) (fun K hl X => ?_)
  refine al_0 X d_S_hasBefore_0 ?_
  refine gf_S_11 X (by assumption) d_S_hasBefore_1 ?_
  refine as_2 X d_S_hasBefore_4 rfl (by first | exact okp_n | exact okp_i | exact okp_r) ?_
  refine al_2 X d_S_hasBefore_5 ?_
  refine V_alen X 3 (by assumption) rfl d_S_hasBefore_6 ?_
  refine is_3 X d_S_hasBefore_7 rfl (by first | exact okp_n | exact okp_i | exact okp_r) ?_
  refine V_iconst (v := 0) X d_S_hasBefore_8 (by decide) ?_
  refine is_4 X d_S_hasBefore_9 rfl (by first | exact okp_n | exact okp_i | exact okp_r) ?_
  exact w_S_hasBefore X ht hw hq hf hu 120 0 _ rfl ⟨_, rfl, by rw [List.drop_zero], rfl⟩
-- hasConflict
def pCon (kl : LK) (sn : Int32) (w : Nat × Int32 × Int64 × Int32) : Bool := match kfind w.2.1 kl with
  | some (_, _, (_, s, _) :: _) => decide (sn < s)
  | _ => false
theorem w_S_hasConflict {K : Cx} {g : GG} {N0 : Nat → Prop} {h : Mp} {post : Option Value → Mp → Prop} {xp : String → Mp → Prop} {mc ms : Nat} (X : Fx K g N0 b_S_hasConflict 4 "SnapshotStore" { frames := 2, cells := mc, slots := ms, locals := 45 } (some .boolean) "hasConflict" []) {s a : Nat} {ta : Option Nat} {bg ck sf nt : Int32} {lv sn se sp ha : Int32} {lt rg pl : Option Nat} {kl : LK} (hs : h s = some (cS ta bg ck sf nt (ptr kl))) (hk : keys h kl) (ho : ksorted kl) (ht : h a = some (cTx lv sn se sp ha lt rg pl)) : ∀ (ws : LW) (z : Option Value), chain cWr h ws → post (some (.int (b01 (ws.any (pCon kl sn))))) h → V K g N0 4 (RQ K g N0 post xp mc ms)  h 0 0 5 [some (va_rf (some s)), some (va_rf (some a)), some (va_rf (ptr ws)), z] [] := by
  intro ws
  induction ws with
  | nil =>
    intro z hv hp
    refine al_2 X d_S_hasConflict_5 ?_
    refine V_ifnull (tgt := 53) X d_S_hasConflict_6 (by decide) (fun c_6 => ?_) (fun b_6 c_6 => ?_)
    · refine V_iconst (v := 0) X d_S_hasConflict_53 (by decide) ?_
      refine V_zret X rfl (by first | rfl | exact nr_z (by assumption)) d_S_hasConflict_54 (by first | omega | decide | (dsimp only; first | done | omega)) (by first | omega | decide | (dsimp only; first | done | omega)) ?_
      exact hp
    · cases c_6
  | cons x t ih =>
    obtain ⟨b, n, c, k⟩ := x
    intro z hv hp
    obtain ⟨hv1, hv2⟩ := hv
    dsimp only [ptr]
    have skip : ∀ q : Option Nat, pCon kl sn (b, n, c, k) = false → V K g N0 4 (RQ K g N0 post xp mc ms) h 0 0 45 [some (va_rf (some s)), some (va_rf (some a)), some (va_rf (some b)), some (va_rf q)] [] := by
      intro q ef
      refine al_2 X d_S_hasConflict_45 ?_
      refine gf_S_244 X (by assumption) d_S_hasConflict_46 ?_
      refine as_2 X d_S_hasConflict_49 rfl (by first | exact okp_n | exact okp_i | exact okp_r) ?_
      refine V_goto (tgt := 5) X d_S_hasConflict_50 (by decide) ?_
      exact ih _ hv2 (by rwa [List.any_cons, ef, Bool.false_or] at hp)
    refine al_2 X d_S_hasConflict_5 ?_
    refine V_ifnull (tgt := 53) X d_S_hasConflict_6 (by decide) (fun c_6 => ?_) (fun b_6 c_6 => ?_)
    · cases c_6
    · refine al_0 X d_S_hasConflict_9 ?_
      refine al_2 X d_S_hasConflict_10 ?_
      refine gf_S_240 X (by assumption) d_S_hasConflict_11 ?_
      refine cl_S_45 X (c_S_keyNamed _ g N0 h n hs hk ho) (by assumption) d_S_hasConflict_14 (by refine ⟨?_, ?_⟩ <;> first | decide | (dsimp only; first | done | omega)) (by first | decide | (simp only [List.map, rf_cat, cat_i, cat_l, List.sum_cons, List.sum_nil]; first | done | decide | omega)) ⟨(by first | omega | decide | (dsimp only; first | done | omega)), (by first | omega | decide | (dsimp only; first | done | omega))⟩ (fun _ _ z => z.elim) ?_
      rintro r h' ⟨rfl, rfl⟩
      cases hf : kfind n kl with
      | none =>
        refine as_3 X d_S_hasConflict_17 rfl (by first | exact okp_n | exact okp_i | exact okp_r) ?_
        refine al_3 X d_S_hasConflict_18 ?_
        refine V_ifnull (tgt := 45) X d_S_hasConflict_19 (by decide) (fun c_19 => ?_) (fun b_19 c_19 => ?_)
        · exact skip _ (by simp [pCon, hf])
        · cases c_19
      | some x =>
        obtain ⟨b2, m, vs⟩ := x
        obtain ⟨nx, hb, hc⟩ := keys_mem hk (List.mem_of_find?_eq_some hf)
        dsimp only [Option.map_some]
        refine as_3 X d_S_hasConflict_17 rfl (by first | exact okp_n | exact okp_i | exact okp_r) ?_
        refine al_3 X d_S_hasConflict_18 ?_
        refine V_ifnull (tgt := 45) X d_S_hasConflict_19 (by decide) (fun c_19 => ?_) (fun b_19 c_19 => ?_)
        · cases c_19
        · refine al_3 X d_S_hasConflict_22 ?_
          refine gf_S_156 X (by assumption) d_S_hasConflict_23 ?_
          cases vs with
          | nil =>
            refine V_ifnull (tgt := 45) X d_S_hasConflict_26 (by decide) (fun c_26 => ?_) (fun b_26 c_26 => ?_)
            · exact skip _ (by simp [pCon, hf])
            · cases c_26
          | cons y vt =>
            obtain ⟨b3, s3, c3⟩ := y
            obtain ⟨hc1, hc2⟩ := hc
            dsimp only [ptr] at hb ⊢
            refine V_ifnull (tgt := 45) X d_S_hasConflict_26 (by decide) (fun c_26 => ?_) (fun b_26 c_26 => ?_)
            · cases c_26
            · refine al_3 X d_S_hasConflict_29 ?_
              refine gf_S_156 X (by assumption) d_S_hasConflict_30 ?_
              refine gf_S_241 X (by assumption) d_S_hasConflict_33 ?_
              refine al_1 X d_S_hasConflict_36 ?_
              refine gf_S_166 X (by assumption) d_S_hasConflict_37 ?_
              refine V_icmp_le (tgt := 45) X d_S_hasConflict_40 (by decide) (fun c_40 => ?_) (fun c_40 => ?_)
              · exact skip _ (by simp [pCon, hf, Int32.not_lt.mpr c_40])
              · have ef : pCon kl sn (b, n, c, k) = true := by simp [pCon, hf, Int32.not_le.mp c_40]
                refine V_iconst (v := 1) X d_S_hasConflict_43 (by decide) ?_
                refine V_zret X rfl (by first | rfl | exact nr_z (by assumption)) d_S_hasConflict_44 (by first | omega | decide | (dsimp only; first | done | omega)) (by first | omega | decide | (dsimp only; first | done | omega)) ?_
                rwa [List.any_cons, ef, Bool.true_or] at hp
theorem c_S_hasConflict (l : Launch) (g : GG) (N0 : Nat → Prop) (h : Mp) {s a : Nat} {ta : Option Nat} {bg ck sf nt : Int32} {lv sn se sp ha : Int32} {rg pl : Option Nat} {ws : LW} {kl : LK} (hs : h s = some (cS ta bg ck sf nt (ptr kl))) (hk : keys h kl) (ho : ksorted kl) (ht : h a = some (cTx lv sn se sp ha (ptr ws) rg pl)) (hw : chain cWr h ws) : Ct l y_S_hasConflict b_S_hasConflict 4 (some .boolean) 2 45 0 0 g N0 h [va_rf (some s), va_rf (some a)] (pI (fun r h' => r = b01 (ws.any (pCon kl sn)) ∧ h' = h)) nox := by
  refine Ct_of "SnapshotStore" "hasConflict" [some (va_rf (some s)), some (va_rf (some a)), none, none] (by decide) rfl rfl (by simp [lg_sl, rf_cat, cat_i, cat_l]) (by simp [toL, lv_args, rf_cat, cat_i, cat_l]) (fun K hl X => ?_)
  refine al_1 X d_S_hasConflict_0 ?_
  refine gf_S_92 X (by assumption) d_S_hasConflict_1 ?_
  refine as_2 X d_S_hasConflict_4 rfl (by first | exact okp_n | exact okp_i | exact okp_r) ?_
  exact w_S_hasConflict X hs hk ho ht ws _ hw ⟨_, rfl, rfl, rfl⟩
-- seenKey
def pSee (sn : Int32) (ws : LW) (low : Int32) (k : Nat × Int32 × LV) : Bool := decide (low ≤ k.2.1) && !decide (seenC sn ws k.2.1 k.2.2 = 4294967296)
theorem w_S_seenKey {K : Cx} {g : GG} {N0 : Nat → Prop} {h : Mp} {post : Option Value → Mp → Prop} {xp : String → Mp → Prop} {mc ms : Nat} (X : Fx K g N0 b_S_seenKey 6 "SnapshotStore" { frames := 3, cells := mc, slots := ms, locals := 66 } (some (.object "SnapshotStore$Key")) "seenKey" []) {s a : Nat} {lv sn se sp ha : Int32} {rg pl : Option Nat} {ws : LW} {low i : Int32} (ht : h a = some (cTx lv sn se sp ha (ptr ws) rg pl)) (hw : chain cWr h ws) : ∀ (kl : LK) (m : Nat), m < 2 ^ 31 → keys h kl → post (some (va_rf (((kl.filter (pSee sn ws low))[m]?).map (·.1)))) h → V K g N0 6 (RQ K g N0 post xp mc ms)  h 0 0 9 [some (va_rf (some s)), some (va_rf (some a)), some (.int low), some (.int i), some (.int (nI m)), some (va_rf (ptr kl))] [] := by
  intro kl
  induction kl with
  | nil =>
    intro m hm hv hp
    refine al_5 X d_S_seenKey_9 ?_
    refine V_ifnull (tgt := 57) X d_S_seenKey_11 (by decide) (fun c_11 => ?_) (fun b_11 c_11 => ?_)
    · refine V_null X d_S_seenKey_57 ?_
      refine V_aret X rfl d_S_seenKey_58 (by first | omega | decide | (dsimp only; first | done | omega)) (by first | omega | decide | (dsimp only; first | done | omega)) ?_
      exact hp
    · cases c_11
  | cons x t ih =>
    obtain ⟨b, n, vs⟩ := x
    intro m hm hv hp
    obtain ⟨hv1, hv2, hv3⟩ := hv
    dsimp only [ptr]
    have skip : ∀ m2, m2 < 2 ^ 31 → post (some (va_rf (((t.filter (pSee sn ws low))[m2]?).map (·.1)))) h → V K g N0 6 (RQ K g N0 post xp mc ms) h 0 0 47 [some (va_rf (some s)), some (va_rf (some a)), some (.int low), some (.int i), some (.int (nI m2)), some (va_rf (some b))] [] := by
      intro m2 hm2 hp2
      refine al_5 X d_S_seenKey_47 ?_
      refine gf_S_72 X (by assumption) d_S_seenKey_49 ?_
      refine as_5 X d_S_seenKey_52 rfl (by first | exact okp_n | exact okp_i | exact okp_r) ?_
      refine V_goto (tgt := 9) X d_S_seenKey_54 (by decide) ?_
      exact ih m2 hm2 hv3 hp2
    refine al_5 X d_S_seenKey_9 ?_
    refine V_ifnull (tgt := 57) X d_S_seenKey_11 (by decide) (fun c_11 => ?_) (fun b_11 c_11 => ?_)
    · cases c_11
    · refine al_5 X d_S_seenKey_14 ?_
      refine gf_S_67 X (by assumption) d_S_seenKey_16 ?_
      refine il_2 X d_S_seenKey_19 ?_
      refine V_icmp_lt (tgt := 47) X d_S_seenKey_20 (by decide) (fun c_20 => ?_) (fun c_20 => ?_)
      · exact skip m hm (by rwa [List.filter_cons_of_neg (by simp [pSee, Int32.not_le.mpr c_20])] at hp)
      · refine al_1 X d_S_seenKey_23 ?_
        refine al_5 X d_S_seenKey_24 ?_
        refine cl_S_49 X (c_S_seenBy _ g N0 h ht hw hv1 hv2) d_S_seenKey_26 (by refine ⟨?_, ?_⟩ <;> first | decide | (dsimp only; first | done | omega)) (by first | decide | (simp only [List.map, rf_cat, cat_i, cat_l, List.sum_cons, List.sum_nil]; first | done | decide | omega)) ⟨(by first | omega | decide | (dsimp only; first | done | omega)), (by first | omega | decide | (dsimp only; first | done | omega))⟩ (fun _ _ z => z.elim) ?_
        rintro r h' ⟨rfl, rfl⟩
        refine V_ldc2 X k_65 d_S_seenKey_29 ?_
        refine V_lcmp X d_S_seenKey_32 ?_
        refine V_if_eq (tgt := 47) X d_S_seenKey_33 (by decide) (fun c_33 => ?_) (fun c_33 => ?_)
        · have e := (lg_cmp_eq _ _).mp c_33
          exact skip m hm (by rwa [List.filter_cons_of_neg (by simp [pSee, e])] at hp)
        · have e : ¬ seenC sn ws n vs = 4294967296 := fun e => c_33 ((lg_cmp_eq _ _).mpr e)
          rw [List.filter_cons_of_pos (by simp [pSee, e, Int32.not_lt.mp c_20])] at hp
          refine il_4 X d_S_seenKey_36 ?_
          refine V_if_ne (tgt := 44) X d_S_seenKey_38 (by decide) (fun c_38 => ?_) (fun c_38 => ?_)
          · cases m with
            | zero => exact absurd nI_0 c_38
            | succ m2 =>
              refine ic_4 (v := (nI m2)) X d_S_seenKey_44 (pk_m1 m2) rfl (by first | exact okp_n | exact okp_i | exact okp_r) ?_
              exact skip m2 (by omega) (by simpa using hp)
          · have hm0 : m = 0 := by
              rcases Nat.eq_zero_or_pos m with e | e
              · exact e
              · exact absurd c_38 (nI_ne0 e hm)
            subst hm0
            refine al_5 X d_S_seenKey_41 ?_
            refine V_aret X rfl d_S_seenKey_43 (by first | omega | decide | (dsimp only; first | done | omega)) (by first | omega | decide | (dsimp only; first | done | omega)) ?_
            exact hp
theorem c_S_seenKey (l : Launch) (g : GG) (N0 : Nat → Prop) (h : Mp) {s a : Nat} {ta : Option Nat} {bg ck sf nt : Int32} {lv sn se sp ha : Int32} {rg pl : Option Nat} {ws : LW} {kl : LK} (low : Int32) (m : Nat) (hm : m < 2 ^ 31) (hs : h s = some (cS ta bg ck sf nt (ptr kl))) (hk : keys h kl) (ht : h a = some (cTx lv sn se sp ha (ptr ws) rg pl)) (hw : chain cWr h ws) : Ct l y_S_seenKey b_S_seenKey 6 (some (.object "SnapshotStore$Key")) 3 66 0 0 g N0 h [va_rf (some s), va_rf (some a), .int low, .int (nI m)] (pR (fun r h' => r = ((kl.filter (pSee sn ws low))[m]?).map (·.1) ∧ h' = h)) nox := by
  refine Ct_of "SnapshotStore" "seenKey" [some (va_rf (some s)), some (va_rf (some a)), some (.int low), some (.int (nI m)), none, none] (by decide) rfl rfl (by simp [lg_sl, rf_cat, cat_i, cat_l]) (by simp [toL, lv_args, rf_cat, cat_i, cat_l]) (fun K hl X => ?_)
  refine il_3 X d_S_seenKey_0 ?_
  refine is_4 X d_S_seenKey_1 rfl (by first | exact okp_n | exact okp_i | exact okp_r) ?_
  refine al_0 X d_S_seenKey_3 ?_
  refine gf_S_63 X (by assumption) d_S_seenKey_4 ?_
  refine as_5 X d_S_seenKey_7 rfl (by first | exact okp_n | exact okp_i | exact okp_r) ?_
  exact w_S_seenKey X ht hw kl m hm hk ⟨_, rfl, rfl, rfl⟩
-- isLookedAt
def lk (lo hi x : Int32) : Bool := decide (lo ≤ x) && decide (x < hi)
def pLk (lo hi : Int32) : CT → Bool
  | (_, _, sn, se, _, _, _, _, _) => decide (se = 0) && lk lo hi sn
theorem w_S_isLookedAt {K : Cx} {g : GG} {N0 : Nat → Prop} {h : Mp} {post : Option Value → Mp → Prop} {xp : String → Mp → Prop} {mc ms : Nat} (X : Fx K g N0 b_S_isLookedAt 7 "SnapshotStore" { frames := 0, cells := mc, slots := ms, locals := 0 } (some .boolean) "isLookedAt" []) {s ta : Nat} {lo hi : Int32} {f : Nat → Option Nat} {tl : List CT} (hq : h ta = some (qarr g f)) (hf : TA f tl) (hu : ∀ t ∈ tl, txOk h t) : ∀ (k j : Nat) (z : Option Value), j + k = 120 → post (some (.int (b01 ((tl.drop j).any (pLk lo hi))))) h → V K g N0 7 (RQ K g N0 post xp mc ms)  h 0 0 46 [some (va_rf (some s)), some (.int lo), some (.int hi), some (va_rf (some ta)), some (.int (nI 120)), some (.int (nI j)), z] [] := by
  intro k
  induction k with
  | zero =>
    intro j z hj hp
    have hj : j = 120 := by omega
    subst hj
    refine il_5 X d_S_isLookedAt_46 ?_
    refine il_4 X d_S_isLookedAt_48 ?_
    refine V_icmp_ge (tgt := 98) X d_S_isLookedAt_50 (by decide) (fun c_50 => ?_) (fun c_50 => ?_)
    · refine V_iconst (v := 0) X d_S_isLookedAt_98 (by decide) ?_
      refine V_zret X rfl (by first | rfl | exact nr_z (by assumption)) d_S_isLookedAt_99 (by first | omega | decide | (dsimp only; first | done | omega)) (by first | omega | decide | (dsimp only; first | done | omega)) ?_
      rwa [List.drop_eq_nil_of_le hf.1] at hp
    · exact absurd (Int32.le_refl _) c_50
  | succ k ih =>
    intro j z hj hp
    refine il_5 X d_S_isLookedAt_46 ?_
    refine il_4 X d_S_isLookedAt_48 ?_
    refine V_icmp_ge (tgt := 98) X d_S_isLookedAt_50 (by decide) (fun c_50 => ?_) (fun c_50 => ?_)
    · exact absurd c_50 (nI_ge (by omega) (by decide))
    · refine al_3 X d_S_isLookedAt_53 ?_
      refine il_5 X d_S_isLookedAt_54 ?_
      refine V_aald X hq rfl (show j < 120 by omega) (by decide) d_S_isLookedAt_56 ?_
      rw [hf.2 j (by omega)]
      refine as_6 X d_S_isLookedAt_57 rfl (by first | exact okp_n | exact okp_i | exact okp_r) ?_
      refine al_6 X d_S_isLookedAt_59 ?_
      cases hu2 : tl[j]? with
      | none =>
        obtain ⟨e1, e2⟩ := drop_n hu2
        refine V_ifnull (tgt := 92) X d_S_isLookedAt_61 (by decide) (fun c_61 => ?_) (fun b_61 c_61 => ?_)
        · refine ic_5 (v := (nI (j+1))) X d_S_isLookedAt_92 (nI_1 j) rfl (by first | exact okp_n | exact okp_i | exact okp_r) ?_
          refine V_goto (tgt := 46) X d_S_isLookedAt_95 (by decide) ?_
          exact ih (j + 1) _ (by omega) (by rwa [e2, ← e1])
        · cases c_61
      | some u =>
        have hm := hu u (List.mem_of_getElem? hu2)
        have e1 := drop_s hu2
        obtain ⟨b, lv2, sn2, se2, sp2, ha2, ws2, rs2, ps2⟩ := u
        obtain ⟨hm1, -⟩ := hm
        dsimp only [Option.map_some]
        have skip : pLk lo hi (b, lv2, sn2, se2, sp2, ha2, ws2, rs2, ps2) = false → V K g N0 7 (RQ K g N0 post xp mc ms) h 0 0 92 [some (va_rf (some s)), some (.int lo), some (.int hi), some (va_rf (some ta)), some (.int (nI 120)), some (.int (nI j)), some (va_rf (some b))] [] := by
          intro ef
          refine ic_5 (v := (nI (j+1))) X d_S_isLookedAt_92 (nI_1 j) rfl (by first | exact okp_n | exact okp_i | exact okp_r) ?_
          refine V_goto (tgt := 46) X d_S_isLookedAt_95 (by decide) ?_
          refine ih (j + 1) _ (by omega) ?_
          rwa [e1, List.any_cons, ef, Bool.false_or] at hp
        refine V_ifnull (tgt := 92) X d_S_isLookedAt_61 (by decide) (fun c_61 => ?_) (fun b_61 c_61 => ?_)
        · cases c_61
        · refine al_6 X d_S_isLookedAt_64 ?_
          refine gf_S_160 X (by assumption) d_S_isLookedAt_66 ?_
          refine V_if_ne (tgt := 92) X d_S_isLookedAt_69 (by decide) (fun c_69 => ?_) (fun c_69 => ?_)
          · exact skip (by simp [pLk, c_69])
          · refine al_6 X d_S_isLookedAt_72 ?_
            refine gf_S_166 X (by assumption) d_S_isLookedAt_74 ?_
            refine il_1 X d_S_isLookedAt_77 ?_
            refine V_icmp_lt (tgt := 92) X d_S_isLookedAt_78 (by decide) (fun c_78 => ?_) (fun c_78 => ?_)
            · exact skip (by simp [pLk, lk, Int32.not_le.mpr c_78])
            · refine al_6 X d_S_isLookedAt_81 ?_
              refine gf_S_166 X (by assumption) d_S_isLookedAt_83 ?_
              refine il_2 X d_S_isLookedAt_86 ?_
              refine V_icmp_ge (tgt := 92) X d_S_isLookedAt_87 (by decide) (fun c_87 => ?_) (fun c_87 => ?_)
              · exact skip (by simp [pLk, lk, Int32.not_lt.mpr c_87])
              · have ef : pLk lo hi (b, lv2, sn2, se2, sp2, ha2, ws2, rs2, ps2) = true := by simp [pLk, lk, c_69, Int32.not_lt.mp c_78, Int32.not_le.mp c_87]
                refine V_iconst (v := 1) X d_S_isLookedAt_90 (by decide) ?_
                refine V_zret X rfl (by first | rfl | exact nr_z (by assumption)) d_S_isLookedAt_91 (by first | omega | decide | (dsimp only; first | done | omega)) (by first | omega | decide | (dsimp only; first | done | omega)) ?_
                rwa [e1, List.any_cons, ef, Bool.true_or] at hp
theorem c_S_isLookedAt (l : Launch) (g : GG) (N0 : Nat → Prop) (h : Mp) {s ta : Nat} {bg ck sf nt : Int32} {le : Option Nat} {f : Nat → Option Nat} {tl : List CT} (lo hi : Int32) (hs : h s = some (cS (some ta) bg ck sf nt le)) (hq : h ta = some (qarr g f)) (hf : TA f tl) (hu : ∀ t ∈ tl, txOk h t) : Ct l y_S_isLookedAt b_S_isLookedAt 7 (some .boolean) 0 0 0 0 g N0 h [va_rf (some s), .int lo, .int hi] (pI (fun r h' => r = b01 (lk lo hi ck || lk lo hi sf || tl.any (pLk lo hi)) ∧ h' = h)) nox := by
  refine Ct_of "SnapshotStore" "isLookedAt" [some (va_rf (some s)), some (.int lo), some (.int hi), none, none, none, none] (by decide) rfl rfl (by simp [lg_sl, rf_cat, cat_i, cat_l]) (by simp [toL, lv_args, rf_cat, cat_i, cat_l]) (fun K hl X => ?_)
  have yes : (lk lo hi ck || lk lo hi sf) = true → V K g N0 7 (RQ K g N0 (pI (fun r h' => r = b01 (lk lo hi ck || lk lo hi sf || tl.any (pLk lo hi)) ∧ h' = h)) nox 0 0) h 0 0 32 [some (va_rf (some s)), some (.int lo), some (.int hi), none, none, none, none] [] := by
    intro e
    refine V_iconst (v := 1) X d_S_isLookedAt_32 (by decide) ?_
    refine V_zret X rfl (by first | rfl | exact nr_z (by assumption)) d_S_isLookedAt_33 (by first | omega | decide | (dsimp only; first | done | omega)) (by first | omega | decide | (dsimp only; first | done | omega)) ?_
    exact ⟨_, rfl, by rw [e]; rfl, rfl⟩
  have no : (lk lo hi ck || lk lo hi sf) = false → V K g N0 7 (RQ K g N0 (pI (fun r h' => r = b01 (lk lo hi ck || lk lo hi sf || tl.any (pLk lo hi)) ∧ h' = h)) nox 0 0) h 0 0 34 [some (va_rf (some s)), some (.int lo), some (.int hi), none, none, none, none] [] := by
    intro e
    refine al_0 X d_S_isLookedAt_34 ?_
    refine gf_S_11 X (by assumption) d_S_isLookedAt_35 ?_
    refine as_3 X d_S_isLookedAt_38 rfl (by first | exact okp_n | exact okp_i | exact okp_r) ?_
    refine al_3 X d_S_isLookedAt_39 ?_
    refine V_alen X 3 (by assumption) rfl d_S_isLookedAt_40 ?_
    refine is_4 X d_S_isLookedAt_41 rfl (by first | exact okp_n | exact okp_i | exact okp_r) ?_
    refine V_iconst (v := 0) X d_S_isLookedAt_43 (by decide) ?_
    refine is_5 X d_S_isLookedAt_44 rfl (by first | exact okp_n | exact okp_i | exact okp_r) ?_
    exact w_S_isLookedAt X hq hf hu 120 0 _ rfl ⟨_, rfl, by rw [List.drop_zero, e, Bool.false_or], rfl⟩
  have second : lk lo hi ck = false → V K g N0 7 (RQ K g N0 (pI (fun r h' => r = b01 (lk lo hi ck || lk lo hi sf || tl.any (pLk lo hi)) ∧ h' = h)) nox 0 0) h 0 0 16 [some (va_rf (some s)), some (.int lo), some (.int hi), none, none, none, none] [] := by
    intro e
    refine al_0 X d_S_isLookedAt_16 ?_
    refine gf_S_149 X (by assumption) d_S_isLookedAt_17 ?_
    refine il_1 X d_S_isLookedAt_20 ?_
    refine V_icmp_lt (tgt := 34) X d_S_isLookedAt_21 (by decide) (fun c_21 => ?_) (fun c_21 => ?_)
    · exact no (by simp [lk, Int32.not_le.mpr c_21] at e ⊢; exact e)
    · refine al_0 X d_S_isLookedAt_24 ?_
      refine gf_S_149 X (by assumption) d_S_isLookedAt_25 ?_
      refine il_2 X d_S_isLookedAt_28 ?_
      refine V_icmp_ge (tgt := 34) X d_S_isLookedAt_29 (by decide) (fun c_29 => ?_) (fun c_29 => ?_)
      · exact no (by simp [lk, Int32.not_lt.mpr c_29] at e ⊢; exact e)
      · exact yes (by simp [lk, Int32.not_lt.mp c_21, Int32.not_le.mp c_29])
  refine al_0 X d_S_isLookedAt_0 ?_
  refine gf_S_31 X (by assumption) d_S_isLookedAt_1 ?_
  refine il_1 X d_S_isLookedAt_4 ?_
  refine V_icmp_lt (tgt := 16) X d_S_isLookedAt_5 (by decide) (fun c_5 => ?_) (fun c_5 => ?_)
  · exact second (by simp [lk, Int32.not_le.mpr c_5])
  · refine al_0 X d_S_isLookedAt_8 ?_
    refine gf_S_31 X (by assumption) d_S_isLookedAt_9 ?_
    refine il_2 X d_S_isLookedAt_12 ?_
    refine V_icmp_lt (tgt := 32) X d_S_isLookedAt_13 (by decide) (fun c_13 => ?_) (fun c_13 => ?_)
    · exact yes (by simp [lk, Int32.not_lt.mp c_5, c_13])
    · exact second (by simp [lk, Int32.not_lt.mp c_13])
-- openOnes
def pOpen : CT → Bool
  | (_, _, _, se, _, _, _, _, _) => decide (se = 0)
theorem w_S_openOnes {K : Cx} {g : GG} {N0 : Nat → Prop} {h : Mp} {post : Option Value → Mp → Prop} {xp : String → Mp → Prop} {mc ms : Nat} (X : Fx K g N0 b_S_openOnes 6 "SnapshotStore" { frames := 0, cells := mc, slots := ms, locals := 0 } (some .int) "openOnes" []) {s ta : Nat} {f : Nat → Option Nat} {tl : List CT} (hq : h ta = some (qarr g f)) (hf : TA f tl) (hu : ∀ t ∈ tl, txOk h t) : ∀ (k j n : Nat) (z : Option Value), j + k = 120 → post (some (.int (nI (n + (tl.drop j).countP pOpen)))) h → V K g N0 6 (RQ K g N0 post xp mc ms)  h 0 0 13 [some (va_rf (some s)), some (.int (nI n)), some (va_rf (some ta)), some (.int (nI 120)), some (.int (nI j)), z] [] := by
  intro k
  induction k with
  | zero =>
    intro j n z hj hp
    have hj : j = 120 := by omega
    subst hj
    refine il_4 X d_S_openOnes_13 ?_
    refine il_3 X d_S_openOnes_15 ?_
    refine V_icmp_ge (tgt := 47) X d_S_openOnes_16 (by decide) (fun c_16 => ?_) (fun c_16 => ?_)
    · refine il_1 X d_S_openOnes_47 ?_
      refine V_iret X rfl d_S_openOnes_48 (by first | omega | decide | (dsimp only; first | done | omega)) (by first | omega | decide | (dsimp only; first | done | omega)) ?_
      rwa [List.drop_eq_nil_of_le hf.1] at hp
    · exact absurd (Int32.le_refl _) c_16
  | succ k ih =>
    intro j n z hj hp
    refine il_4 X d_S_openOnes_13 ?_
    refine il_3 X d_S_openOnes_15 ?_
    refine V_icmp_ge (tgt := 47) X d_S_openOnes_16 (by decide) (fun c_16 => ?_) (fun c_16 => ?_)
    · exact absurd c_16 (nI_ge (by omega) (by decide))
    · refine al_2 X d_S_openOnes_19 ?_
      refine il_4 X d_S_openOnes_20 ?_
      refine V_aald X hq rfl (show j < 120 by omega) (by decide) d_S_openOnes_22 ?_
      rw [hf.2 j (by omega)]
      refine as_5 X d_S_openOnes_23 rfl (by first | exact okp_n | exact okp_i | exact okp_r) ?_
      refine al_5 X d_S_openOnes_25 ?_
      cases hu2 : tl[j]? with
      | none =>
        obtain ⟨e1, e2⟩ := drop_n hu2
        refine V_ifnull (tgt := 41) X d_S_openOnes_27 (by decide) (fun c_27 => ?_) (fun b_27 c_27 => ?_)
        · refine ic_4 (v := (nI (j+1))) X d_S_openOnes_41 (nI_1 j) rfl (by first | exact okp_n | exact okp_i | exact okp_r) ?_
          refine V_goto (tgt := 13) X d_S_openOnes_44 (by decide) ?_
          exact ih (j + 1) n _ (by omega) (by rwa [e2, ← e1])
        · cases c_27
      | some u =>
        have hm := hu u (List.mem_of_getElem? hu2)
        have e1 := drop_s hu2
        obtain ⟨b, lv2, sn2, se2, sp2, ha2, ws2, rs2, ps2⟩ := u
        obtain ⟨hm1, -⟩ := hm
        dsimp only [Option.map_some]
        refine V_ifnull (tgt := 41) X d_S_openOnes_27 (by decide) (fun c_27 => ?_) (fun b_27 c_27 => ?_)
        · cases c_27
        · refine al_5 X d_S_openOnes_30 ?_
          refine gf_S_160 X (by assumption) d_S_openOnes_32 ?_
          refine V_if_ne (tgt := 41) X d_S_openOnes_35 (by decide) (fun c_35 => ?_) (fun c_35 => ?_)
          · refine ic_4 (v := (nI (j+1))) X d_S_openOnes_41 (nI_1 j) rfl (by first | exact okp_n | exact okp_i | exact okp_r) ?_
            refine V_goto (tgt := 13) X d_S_openOnes_44 (by decide) ?_
            refine ih (j + 1) n _ (by omega) ?_
            rwa [e1, List.countP_cons_of_neg (by simp [pOpen, c_35])] at hp
          · refine ic_1 (v := (nI (n+1))) X d_S_openOnes_38 (nI_1 n) rfl (by first | exact okp_n | exact okp_i | exact okp_r) ?_
            refine ic_4 (v := (nI (j+1))) X d_S_openOnes_41 (nI_1 j) rfl (by first | exact okp_n | exact okp_i | exact okp_r) ?_
            refine V_goto (tgt := 13) X d_S_openOnes_44 (by decide) ?_
            refine ih (j + 1) (n + 1) _ (by omega) ?_
            rw [e1, List.countP_cons_of_pos (by simp [pOpen, c_35])] at hp
            rwa [show n + 1 + (tl.drop (j + 1)).countP pOpen = n + ((tl.drop (j + 1)).countP pOpen + 1) by omega]
theorem c_S_openOnes (l : Launch) (g : GG) (N0 : Nat → Prop) (h : Mp) {s ta : Nat} {bg ck sf nt : Int32} {le : Option Nat} {f : Nat → Option Nat} {tl : List CT} (hs : h s = some (cS (some ta) bg ck sf nt le)) (hq : h ta = some (qarr g f)) (hf : TA f tl) (hu : ∀ t ∈ tl, txOk h t) : Ct l y_S_openOnes b_S_openOnes 6 (some .int) 0 0 0 0 g N0 h [va_rf (some s)] (pI (fun r h' => r = nI (tl.countP pOpen) ∧ h' = h)) nox := by
  refine Ct_of "SnapshotStore" "openOnes" [some (va_rf (some s)), none, none, none, none, none] (by decide) rfl rfl (by simp [lg_sl, rf_cat, cat_i, cat_l]) (by simp [toL, lv_args, rf_cat, cat_i, cat_l]) (fun K hl X => ?_)
  refine V_iconst (v := 0) X d_S_openOnes_0 (by decide) ?_
  refine is_1 X d_S_openOnes_1 rfl (by first | exact okp_n | exact okp_i | exact okp_r) ?_
  refine al_0 X d_S_openOnes_2 ?_
  refine gf_S_11 X (by assumption) d_S_openOnes_3 ?_
  refine as_2 X d_S_openOnes_6 rfl (by first | exact okp_n | exact okp_i | exact okp_r) ?_
  refine al_2 X d_S_openOnes_7 ?_
  refine V_alen X 3 (by assumption) rfl d_S_openOnes_8 ?_
  refine is_3 X d_S_openOnes_9 rfl (by first | exact okp_n | exact okp_i | exact okp_r) ?_
  refine V_iconst (v := 0) X d_S_openOnes_10 (by decide) ?_
  refine is_4 X d_S_openOnes_11 rfl (by first | exact okp_n | exact okp_i | exact okp_r) ?_
  exact w_S_openOnes X hq hf hu 120 0 0 _ rfl ⟨_, rfl, by rw [List.drop_zero, Nat.zero_add], rfl⟩
-- allVersions
def vtotal : LK → Nat
  | [] => 0
  | (_, _, vs) :: t => vs.length + vtotal t
theorem w_S_allVersions {K : Cx} {g : GG} {N0 : Nat → Prop} {h : Mp} {post : Option Value → Mp → Prop} {xp : String → Mp → Prop} {mc ms : Nat} (X : Fx K g N0 b_S_allVersions 3 "SnapshotStore" { frames := 1, cells := mc, slots := ms, locals := 22 } (some .int) "allVersions" []) {s : Nat} : ∀ (kl : LK) (n : Nat), keys h kl → post (some (.int (nI (n + vtotal kl)))) h → V K g N0 3 (RQ K g N0 post xp mc ms)  h 0 0 7 [some (va_rf (some s)), some (.int (nI n)), some (va_rf (ptr kl))] [] := by
  intro kl
  induction kl with
  | nil =>
    intro n hv hp
    refine al_2 X d_S_allVersions_7 ?_
    refine V_ifnull (tgt := 26) X d_S_allVersions_8 (by decide) (fun c_8 => ?_) (fun b_8 c_8 => ?_)
    · refine il_1 X d_S_allVersions_26 ?_
      refine V_iret X rfl d_S_allVersions_27 (by first | omega | decide | (dsimp only; first | done | omega)) (by first | omega | decide | (dsimp only; first | done | omega)) ?_
      exact hp
    · cases c_8
  | cons x t ih =>
    obtain ⟨b, m, vs⟩ := x
    intro n hv hp
    obtain ⟨hv1, hv2, hv3⟩ := hv
    dsimp only [ptr]
    refine al_2 X d_S_allVersions_7 ?_
    refine V_ifnull (tgt := 26) X d_S_allVersions_8 (by decide) (fun c_8 => ?_) (fun b_8 c_8 => ?_)
    · cases c_8
    · refine il_1 X d_S_allVersions_11 ?_
      refine al_2 X d_S_allVersions_12 ?_
      refine cl_S_175 X (c_Key_versionCount _ g N0 h hv1 hv2) (by assumption) d_S_allVersions_13 (by refine ⟨?_, ?_⟩ <;> first | decide | (dsimp only; first | done | omega)) (by first | decide | (simp only [List.map, rf_cat, cat_i, cat_l, List.sum_cons, List.sum_nil]; first | done | decide | omega)) ⟨(by first | omega | decide | (dsimp only; first | done | omega)), (by first | omega | decide | (dsimp only; first | done | omega))⟩ (fun _ _ z => z.elim) ?_
      rintro r h' ⟨rfl, rfl⟩
      refine V_iadd X d_S_allVersions_16 ?_
      rw [nI_add]
      refine is_1 X d_S_allVersions_17 rfl (by first | exact okp_n | exact okp_i | exact okp_r) ?_
      refine al_2 X d_S_allVersions_18 ?_
      refine gf_S_72 X (by assumption) d_S_allVersions_19 ?_
      refine as_2 X d_S_allVersions_22 rfl (by first | exact okp_n | exact okp_i | exact okp_r) ?_
      refine V_goto (tgt := 7) X d_S_allVersions_23 (by decide) ?_
      exact ih _ hv3 (by rwa [vtotal, show n + (vs.length + vtotal t) = n + vs.length + vtotal t by omega] at hp)
theorem c_S_allVersions (l : Launch) (g : GG) (N0 : Nat → Prop) (h : Mp) {s : Nat} {ta : Option Nat} {bg ck sf nt : Int32} {kl : LK} (hs : h s = some (cS ta bg ck sf nt (ptr kl))) (hk : keys h kl) : Ct l y_S_allVersions b_S_allVersions 3 (some .int) 1 22 0 0 g N0 h [va_rf (some s)] (pI (fun r h' => r = nI (vtotal kl) ∧ h' = h)) nox := by
  refine Ct_of "SnapshotStore" "allVersions" [some (va_rf (some s)), none, none] (by decide) rfl rfl (by simp [lg_sl, rf_cat, cat_i, cat_l]) (by simp [toL, lv_args, rf_cat, cat_i, cat_l]) (fun K hl X => ?_)
  refine V_iconst (v := 0) X d_S_allVersions_0 (by decide) ?_
  refine is_1 X d_S_allVersions_1 rfl (by first | exact okp_n | exact okp_i | exact okp_r) ?_
  refine al_0 X d_S_allVersions_2 ?_
  refine gf_S_63 X (by assumption) d_S_allVersions_3 ?_
  refine as_2 X d_S_allVersions_6 rfl (by first | exact okp_n | exact okp_i | exact okp_r) ?_
  exact w_S_allVersions X kl 0 hk ⟨_, rfl, by rw [Nat.zero_add], rfl⟩
-- keysWithVersions
def pHas (k : Nat × Int32 × LV) : Bool := !k.2.2.isEmpty
theorem w_S_keysWithVersions {K : Cx} {g : GG} {N0 : Nat → Prop} {h : Mp} {post : Option Value → Mp → Prop} {xp : String → Mp → Prop} {mc ms : Nat} (X : Fx K g N0 b_S_keysWithVersions 3 "SnapshotStore" { frames := 0, cells := mc, slots := ms, locals := 0 } (some .int) "keysWithVersions" []) {s : Nat} : ∀ (kl : LK) (n : Nat), keys h kl → post (some (.int (nI (n + kl.countP pHas)))) h → V K g N0 3 (RQ K g N0 post xp mc ms)  h 0 0 7 [some (va_rf (some s)), some (.int (nI n)), some (va_rf (ptr kl))] [] := by
  intro kl
  induction kl with
  | nil =>
    intro n hv hp
    refine al_2 X d_S_keysWithVersions_7 ?_
    refine V_ifnull (tgt := 29) X d_S_keysWithVersions_8 (by decide) (fun c_8 => ?_) (fun b_8 c_8 => ?_)
    · refine il_1 X d_S_keysWithVersions_29 ?_
      refine V_iret X rfl d_S_keysWithVersions_30 (by first | omega | decide | (dsimp only; first | done | omega)) (by first | omega | decide | (dsimp only; first | done | omega)) ?_
      exact hp
    · cases c_8
  | cons x t ih =>
    obtain ⟨b, m, vs⟩ := x
    intro n hv hp
    obtain ⟨hv1, hv2, hv3⟩ := hv
    dsimp only [ptr]
    refine al_2 X d_S_keysWithVersions_7 ?_
    refine V_ifnull (tgt := 29) X d_S_keysWithVersions_8 (by decide) (fun c_8 => ?_) (fun b_8 c_8 => ?_)
    · cases c_8
    · refine al_2 X d_S_keysWithVersions_11 ?_
      refine gf_S_156 X (by assumption) d_S_keysWithVersions_12 ?_
      cases vs with
      | nil =>
        refine V_ifnull (tgt := 21) X d_S_keysWithVersions_15 (by decide) (fun c_15 => ?_) (fun b_15 c_15 => ?_)
        · refine al_2 X d_S_keysWithVersions_21 ?_
          refine gf_S_72 X (by assumption) d_S_keysWithVersions_22 ?_
          refine as_2 X d_S_keysWithVersions_25 rfl (by first | exact okp_n | exact okp_i | exact okp_r) ?_
          refine V_goto (tgt := 7) X d_S_keysWithVersions_26 (by decide) ?_
          exact ih _ hv3 (by rwa [List.countP_cons_of_neg (by simp [pHas])] at hp)
        · cases c_15
      | cons y vt =>
        refine V_ifnull (tgt := 21) X d_S_keysWithVersions_15 (by decide) (fun c_15 => ?_) (fun b_15 c_15 => ?_)
        · cases c_15
        · refine ic_1 (v := (nI (n+1))) X d_S_keysWithVersions_18 (nI_1 n) rfl (by first | exact okp_n | exact okp_i | exact okp_r) ?_
          refine al_2 X d_S_keysWithVersions_21 ?_
          refine gf_S_72 X (by assumption) d_S_keysWithVersions_22 ?_
          refine as_2 X d_S_keysWithVersions_25 rfl (by first | exact okp_n | exact okp_i | exact okp_r) ?_
          refine V_goto (tgt := 7) X d_S_keysWithVersions_26 (by decide) ?_
          refine ih _ hv3 ?_
          rw [List.countP_cons_of_pos (by simp [pHas])] at hp
          rwa [show n + 1 + t.countP pHas = n + (t.countP pHas + 1) by omega]
theorem c_S_keysWithVersions (l : Launch) (g : GG) (N0 : Nat → Prop) (h : Mp) {s : Nat} {ta : Option Nat} {bg ck sf nt : Int32} {kl : LK} (hs : h s = some (cS ta bg ck sf nt (ptr kl))) (hk : keys h kl) : Ct l y_S_keysWithVersions b_S_keysWithVersions 3 (some .int) 0 0 0 0 g N0 h [va_rf (some s)] (pI (fun r h' => r = nI (kl.countP pHas) ∧ h' = h)) nox := by
  refine Ct_of "SnapshotStore" "keysWithVersions" [some (va_rf (some s)), none, none] (by decide) rfl rfl (by simp [lg_sl, rf_cat, cat_i, cat_l]) (by simp [toL, lv_args, rf_cat, cat_i, cat_l]) (fun K hl X => ?_)
  refine V_iconst (v := 0) X d_S_keysWithVersions_0 (by decide) ?_
  refine is_1 X d_S_keysWithVersions_1 rfl (by first | exact okp_n | exact okp_i | exact okp_r) ?_
  refine al_0 X d_S_keysWithVersions_2 ?_
  refine gf_S_63 X (by assumption) d_S_keysWithVersions_3 ?_
  refine as_2 X d_S_keysWithVersions_6 rfl (by first | exact okp_n | exact okp_i | exact okp_r) ?_
  exact w_S_keysWithVersions X kl 0 hk ⟨_, rfl, by rw [Nat.zero_add], rfl⟩
-- keysWithValue
def pVal (ck : Int32) (k : Nat × Int32 × LV) : Bool := !decide (vcont (vdrop ck k.2.2) = 4294967296)
theorem w_S_keysWithValue {K : Cx} {g : GG} {N0 : Nat → Prop} {h : Mp} {post : Option Value → Mp → Prop} {xp : String → Mp → Prop} {mc ms : Nat} (X : Fx K g N0 b_S_keysWithValue 3 "SnapshotStore" { frames := 2, cells := mc, slots := ms, locals := 44 } (some .int) "keysWithValue" []) {s : Nat} {ta : Option Nat} {bg ck sf nt : Int32} {le : Option Nat} (hs : h s = some (cS ta bg ck sf nt le)) : ∀ (kl : LK) (n : Nat), keys h kl → post (some (.int (nI (n + kl.countP (pVal ck))))) h → V K g N0 3 (RQ K g N0 post xp mc ms)  h 0 0 7 [some (va_rf (some s)), some (.int (nI n)), some (va_rf (ptr kl))] [] := by
  intro kl
  induction kl with
  | nil =>
    intro n hv hp
    refine al_2 X d_S_keysWithValue_7 ?_
    refine V_ifnull (tgt := 37) X d_S_keysWithValue_8 (by decide) (fun c_8 => ?_) (fun b_8 c_8 => ?_)
    · refine il_1 X d_S_keysWithValue_37 ?_
      refine V_iret X rfl d_S_keysWithValue_38 (by first | omega | decide | (dsimp only; first | done | omega)) (by first | omega | decide | (dsimp only; first | done | omega)) ?_
      exact hp
    · cases c_8
  | cons x t ih =>
    obtain ⟨b, m, vs⟩ := x
    intro n hv hp
    obtain ⟨hv1, hv2, hv3⟩ := hv
    dsimp only [ptr]
    refine al_2 X d_S_keysWithValue_7 ?_
    refine V_ifnull (tgt := 37) X d_S_keysWithValue_8 (by decide) (fun c_8 => ?_) (fun b_8 c_8 => ?_)
    · cases c_8
    · refine al_2 X d_S_keysWithValue_11 ?_
      refine al_0 X d_S_keysWithValue_12 ?_
      refine gf_S_31 X (by assumption) d_S_keysWithValue_13 ?_
      refine cl_S_171 X (c_Key_contentAt _ g N0 h ck hv1 hv2) (by assumption) d_S_keysWithValue_16 (by refine ⟨?_, ?_⟩ <;> first | decide | (dsimp only; first | done | omega)) (by first | decide | (simp only [List.map, rf_cat, cat_i, cat_l, List.sum_cons, List.sum_nil]; first | done | decide | omega)) ⟨(by first | omega | decide | (dsimp only; first | done | omega)), (by first | omega | decide | (dsimp only; first | done | omega))⟩ (fun _ _ z => z.elim) ?_
      rintro r h' ⟨rfl, rfl⟩
      refine V_ldc2 X k_65 d_S_keysWithValue_19 ?_
      refine V_lcmp X d_S_keysWithValue_22 ?_
      refine V_if_eq (tgt := 29) X d_S_keysWithValue_23 (by decide) (fun c_23 => ?_) (fun c_23 => ?_)
      · have e := (lg_cmp_eq _ _).mp c_23
        refine al_2 X d_S_keysWithValue_29 ?_
        refine gf_S_72 X (by assumption) d_S_keysWithValue_30 ?_
        refine as_2 X d_S_keysWithValue_33 rfl (by first | exact okp_n | exact okp_i | exact okp_r) ?_
        refine V_goto (tgt := 7) X d_S_keysWithValue_34 (by decide) ?_
        exact ih _ hv3 (by rwa [List.countP_cons_of_neg (by simp [pVal, e])] at hp)
      · have e : ¬ vcont (vdrop ck vs) = 4294967296 := fun e => c_23 ((lg_cmp_eq _ _).mpr e)
        refine ic_1 (v := (nI (n+1))) X d_S_keysWithValue_26 (nI_1 n) rfl (by first | exact okp_n | exact okp_i | exact okp_r) ?_
        refine al_2 X d_S_keysWithValue_29 ?_
        refine gf_S_72 X (by assumption) d_S_keysWithValue_30 ?_
        refine as_2 X d_S_keysWithValue_33 rfl (by first | exact okp_n | exact okp_i | exact okp_r) ?_
        refine V_goto (tgt := 7) X d_S_keysWithValue_34 (by decide) ?_
        refine ih _ hv3 ?_
        rw [List.countP_cons_of_pos (by simp [pVal, e])] at hp
        rwa [show n + 1 + t.countP (pVal ck) = n + (t.countP (pVal ck) + 1) by omega]
theorem c_S_keysWithValue (l : Launch) (g : GG) (N0 : Nat → Prop) (h : Mp) {s : Nat} {ta : Option Nat} {bg ck sf nt : Int32} {kl : LK} (hs : h s = some (cS ta bg ck sf nt (ptr kl))) (hk : keys h kl) : Ct l y_S_keysWithValue b_S_keysWithValue 3 (some .int) 2 44 0 0 g N0 h [va_rf (some s)] (pI (fun r h' => r = nI (kl.countP (pVal ck)) ∧ h' = h)) nox := by
  refine Ct_of "SnapshotStore" "keysWithValue" [some (va_rf (some s)), none, none] (by decide) rfl rfl (by simp [lg_sl, rf_cat, cat_i, cat_l]) (by simp [toL, lv_args, rf_cat, cat_i, cat_l]) (fun K hl X => ?_)
  refine V_iconst (v := 0) X d_S_keysWithValue_0 (by decide) ?_
  refine is_1 X d_S_keysWithValue_1 rfl (by first | exact okp_n | exact okp_i | exact okp_r) ?_
  refine al_0 X d_S_keysWithValue_2 ?_
  refine gf_S_63 X (by assumption) d_S_keysWithValue_3 ?_
  refine as_2 X d_S_keysWithValue_6 rfl (by first | exact okp_n | exact okp_i | exact okp_r) ?_
  exact w_S_keysWithValue X hs kl 0 hk ⟨_, rfl, by rw [Nat.zero_add], rfl⟩

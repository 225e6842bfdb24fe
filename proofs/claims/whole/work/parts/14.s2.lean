-- the class's methods over the array of transactions
abbrev CP : Type := List (Nat × Int32 × LW)
abbrev CT : Type := Nat × Int32 × Int32 × Int32 × Int32 × Int32 × LW × LR × CP
def places (h : Mp) : CP → Prop
  | [] => True
  | (a, n, wl) :: t => h a = some (cPl (n, ptr wl) (ptr t)) ∧ chain cWr h wl ∧ places h t
def txOk (h : Mp) : CT → Prop
  | (a, lv, sn, se, sp, ha, ws, rs, ps) => h a = some (cTx lv sn se sp ha (ptr ws) (ptr rs) (ptr ps)) ∧ chain cWr h ws ∧ chain cRng h rs ∧ places h ps
abbrev qarr (g : GG) (f : Nat → Option Nat) : va_E := .inl (g.2 3, 120, .inr (.inr (.inr (.inr f))))
def TA (f : Nat → Option Nat) (tl : List CT) : Prop := tl.length ≤ 120 ∧ ∀ i, i < 120 → f i = (tl[i]?).map (·.1)
theorem drop_s {α : Type} {l : List α} {j : Nat} {u : α} (e : l[j]? = some u) : l.drop j = u :: l.drop (j + 1) := by
  obtain ⟨h1, h2⟩ := List.getElem?_eq_some_iff.mp e
  rw [List.drop_eq_getElem_cons h1, h2]
theorem drop_n {α : Type} {l : List α} {j : Nat} (e : l[j]? = none) : l.drop j = [] ∧ l.drop (j + 1) = [] := by
  have := List.getElem?_eq_none_iff.mp e
  exact ⟨List.drop_eq_nil_of_le this, List.drop_eq_nil_of_le (by omega)⟩
def pAft (sn : Int32) (rs : LR) (own : Bool) : CT → Bool
  | (_, lv, _, se, sp, ha, ws, _, _) => decide (lv = 1) && (decide (se = 1) && decide (sn < sp)) && (!decide (ha = 0) || !own) && rany rs ws
theorem w_S_hasAfter {K : Cx} {g : GG} {N0 : Nat → Prop} {h : Mp} {post : Option Value → Mp → Prop} {xp : String → Mp → Prop} {mc ms : Nat} (X : Fx K g N0 b_S_hasAfter 7 "SnapshotStore" { frames := 2, cells := mc, slots := ms, locals := 44 } (some .boolean) "hasAfter" []) {s a ta : Nat} {lv sn se sp ha : Int32} {lt pl : Option Nat} {rs : LR} {own : Bool} {f : Nat → Option Nat} {tl : List CT} (ht : h a = some (cTx lv sn se sp ha lt (ptr rs) pl)) (hr : chain cRng h rs) (hq : h ta = some (qarr g f)) (hf : TA f tl) (hu : ∀ t ∈ tl, txOk h t) : ∀ (k j : Nat) (z : Option Value), j + k = 120 → post (some (.int (b01 ((tl.drop j).any (pAft sn rs own))))) h → V K g N0 7 (RQ K g N0 post xp mc ms)  h 0 0 12 [some (va_rf (some s)), some (va_rf (some a)), some (.int (b01 own)), some (va_rf (some ta)), some (.int (nI 120)), some (.int (nI j)), z] [] := by
  intro k
  induction k with
  | zero =>
    intro j z hj hp
    have hj : j = 120 := by omega
    subst hj
    refine il_5 X d_S_hasAfter_12 ?_
    refine il_4 X d_S_hasAfter_14 ?_
    refine V_icmp_ge (tgt := 83) X d_S_hasAfter_16 (by decide) (fun c_16 => ?_) (fun c_16 => ?_)
    · refine V_iconst (v := 0) X d_S_hasAfter_83 (by decide) ?_
      refine V_zret X rfl (by first | rfl | exact nr_z (by assumption)) d_S_hasAfter_84 (by first | omega | decide | (dsimp only; first | done | omega)) (by first | omega | decide | (dsimp only; first | done | omega)) ?_
      rwa [List.drop_eq_nil_of_le hf.1] at hp
    · exact absurd (Int32.le_refl _) c_16
  | succ k ih =>
    intro j z hj hp
    refine il_5 X d_S_hasAfter_12 ?_
    refine il_4 X d_S_hasAfter_14 ?_
    refine V_icmp_ge (tgt := 83) X d_S_hasAfter_16 (by decide) (fun c_16 => ?_) (fun c_16 => ?_)
    · exact absurd c_16 (nI_ge (by omega) (by decide))
    · refine al_3 X d_S_hasAfter_19 ?_
      refine il_5 X d_S_hasAfter_20 ?_
      refine V_aald X hq rfl (show j < 120 by omega) (by decide) d_S_hasAfter_22 ?_
      rw [hf.2 j (by omega)]
      refine as_6 X d_S_hasAfter_23 rfl (by first | exact okp_n | exact okp_i | exact okp_r) ?_
      refine al_6 X d_S_hasAfter_25 ?_
      cases hu2 : tl[j]? with
      | none =>
        obtain ⟨e1, e2⟩ := drop_n hu2
        refine V_ifnull (tgt := 77) X d_S_hasAfter_27 (by decide) (fun c_27 => ?_) (fun b_27 c_27 => ?_)
        · refine ic_5 (v := (nI (j+1))) X d_S_hasAfter_77 (nI_1 j) rfl (by first | exact okp_n | exact okp_i | exact okp_r) ?_
          refine V_goto (tgt := 12) X d_S_hasAfter_80 (by decide) ?_
          exact ih (j + 1) _ (by omega) (by rwa [e2, ← e1])
        · cases c_27
      | some u =>
        have hm := hu u (List.mem_of_getElem? hu2)
        have e1 := drop_s hu2
        obtain ⟨b, lv2, sn2, se2, sp2, ha2, ws2, rs2, ps2⟩ := u
        obtain ⟨hm1, hm2, hm3, hm4⟩ := hm
        dsimp only [Option.map_some]
        have skip : pAft sn rs own (b, lv2, sn2, se2, sp2, ha2, ws2, rs2, ps2) = false → V K g N0 7 (RQ K g N0 post xp mc ms) h 0 0 77 [some (va_rf (some s)), some (va_rf (some a)), some (.int (b01 own)), some (va_rf (some ta)), some (.int (nI 120)), some (.int (nI j)), some (va_rf (some b))] [] := by
          intro ef
          refine ic_5 (v := (nI (j+1))) X d_S_hasAfter_77 (nI_1 j) rfl (by first | exact okp_n | exact okp_i | exact okp_r) ?_
          refine V_goto (tgt := 12) X d_S_hasAfter_80 (by decide) ?_
          refine ih (j + 1) _ (by omega) ?_
          rwa [e1, List.any_cons, ef, Bool.false_or] at hp
        refine V_ifnull (tgt := 77) X d_S_hasAfter_27 (by decide) (fun c_27 => ?_) (fun b_27 c_27 => ?_)
        · cases c_27
        · refine al_6 X d_S_hasAfter_30 ?_
          refine gf_S_121 X (by assumption) d_S_hasAfter_32 ?_
          refine V_iconst (v := 1) X d_S_hasAfter_35 (by decide) ?_
          refine V_icmp_ne (tgt := 77) X d_S_hasAfter_36 (by decide) (fun c_36 => ?_) (fun c_36 => ?_)
          · exact skip (by simp [pAft, c_36])
          · refine al_6 X d_S_hasAfter_39 ?_
            refine al_1 X d_S_hasAfter_41 ?_
            refine gf_S_166 X (by assumption) d_S_hasAfter_42 ?_
            refine cl_S_247 X (c_Tx_committedAbove _ g N0 h sn hm1) (by assumption) d_S_hasAfter_45 (by refine ⟨?_, ?_⟩ <;> first | decide | (dsimp only; first | done | omega)) (by first | decide | (simp only [List.map, rf_cat, cat_i, cat_l, List.sum_cons, List.sum_nil]; first | done | decide | omega)) ⟨(by first | omega | decide | (dsimp only; first | done | omega)), (by first | omega | decide | (dsimp only; first | done | omega))⟩ (fun _ _ z => z.elim) ?_
            rintro r h' ⟨rfl, rfl⟩
            refine V_if_eq (tgt := 77) X d_S_hasAfter_48 (by decide) (fun c_48 => ?_) (fun c_48 => ?_)
            · have e2 : (decide (se2 = 1) && decide (sn < sp2)) = false := by cases hc : (decide (se2 = 1) && decide (sn < sp2)) <;> simp_all [b01]
              exact skip (by simp only [pAft, e2, Bool.and_false, Bool.false_and])
            · have e2 : (decide (se2 = 1) && decide (sn < sp2)) = true := by cases hc : (decide (se2 = 1) && decide (sn < sp2)) <;> simp_all [b01]
              have rest : (!decide (ha2 = 0) || !own) = true → V K g N0 7 (RQ K g N0 post xp mc ms) h' 0 0 63 [some (va_rf (some s)), some (va_rf (some a)), some (.int (b01 own)), some (va_rf (some ta)), some (.int (nI 120)), some (.int (nI j)), some (va_rf (some b))] [] := by
                intro e3
                refine al_1 X d_S_hasAfter_63 ?_
                refine al_6 X d_S_hasAfter_64 ?_
                refine gf_S_92 X (by assumption) d_S_hasAfter_66 ?_
                refine cl_S_250 X (c_Tx_hasReadAnyOf _ g N0 h' ht hr hm2) (by assumption) d_S_hasAfter_69 (by refine ⟨?_, ?_⟩ <;> first | decide | (dsimp only; first | done | omega)) (by first | decide | (simp only [List.map, rf_cat, cat_i, cat_l, List.sum_cons, List.sum_nil]; first | done | decide | omega)) ⟨(by first | omega | decide | (dsimp only; first | done | omega)), (by first | omega | decide | (dsimp only; first | done | omega))⟩ (fun _ _ z => z.elim) ?_
                rintro r h2 ⟨rfl, rfl⟩
                refine V_if_eq (tgt := 77) X d_S_hasAfter_72 (by decide) (fun c_72 => ?_) (fun c_72 => ?_)
                · have e4 : rany rs ws2 = false := by cases hc : rany rs ws2 <;> simp_all [b01]
                  exact skip (by simp only [pAft, e4, Bool.and_false])
                · have e4 : rany rs ws2 = true := by cases hc : rany rs ws2 <;> simp_all [b01]
                  refine V_iconst (v := 1) X d_S_hasAfter_75 (by decide) ?_
                  refine V_zret X rfl (by first | rfl | exact nr_z (by assumption)) d_S_hasAfter_76 (by first | omega | decide | (dsimp only; first | done | omega)) (by first | omega | decide | (dsimp only; first | done | omega)) ?_
                  have ef : pAft sn rs own (b, lv2, sn2, se2, sp2, ha2, ws2, rs2, ps2) = true := by simp only [pAft, e2, e3, e4, Bool.and_true, decide_eq_true_eq]; exact c_36
                  rwa [e1, List.any_cons, ef, Bool.true_or] at hp
              refine al_6 X d_S_hasAfter_51 ?_
              refine gf_S_138 X (by assumption) d_S_hasAfter_53 ?_
              refine V_if_ne (tgt := 63) X d_S_hasAfter_56 (by decide) (fun c_56 => ?_) (fun c_56 => ?_)
              · exact rest (by simp [c_56])
              · refine il_2 X d_S_hasAfter_59 ?_
                refine V_if_ne (tgt := 77) X d_S_hasAfter_60 (by decide) (fun c_60 => ?_) (fun c_60 => ?_)
                · refine skip ?_
                  have e3 : own = true := by cases own <;> simp_all [b01]
                  simp [pAft, c_56, e3]
                · refine rest ?_
                  have e3 : own = false := by cases own <;> simp_all [b01]
                  simp [e3]
theorem c_S_hasAfter (l : Launch) (g : GG) (N0 : Nat → Prop) (h : Mp) {s a ta : Nat} {bg ck sf nt : Int32} {le : Option Nat} {lv sn se sp ha : Int32} {lt pl : Option Nat} {rs : LR} {f : Nat → Option Nat} {tl : List CT} (own : Bool) (hs : h s = some (cS (some ta) bg ck sf nt le)) (ht : h a = some (cTx lv sn se sp ha lt (ptr rs) pl)) (hr : chain cRng h rs) (hq : h ta = some (qarr g f)) (hf : TA f tl) (hu : ∀ t ∈ tl, txOk h t) : Ct l y_S_hasAfter b_S_hasAfter 7 (some .boolean) 2 44 0 0 g N0 h [va_rf (some s), va_rf (some a), .int (b01 own)] (pI (fun r h' => r = b01 (tl.any (pAft sn rs own)) ∧ h' = h)) nox := by
  refine Ct_of "SnapshotStore" "hasAfter" [some (va_rf (some s)), some (va_rf (some a)), some (.int (b01 own)), none, none, none, none] (by decide) rfl rfl (by simp [lg_sl, rf_cat, cat_i, cat_l]) (by simp [toL, lv_args, rf_cat, cat_i, cat_l]) (fun K hl X => ?_)
  refine al_0 X d_S_hasAfter_0 ?_
  refine gf_S_11 X (by assumption) d_S_hasAfter_1 ?_
  refine as_3 X d_S_hasAfter_4 rfl (by first | exact okp_n | exact okp_i | exact okp_r) ?_
  refine al_3 X d_S_hasAfter_5 ?_
  refine V_alen X 3 (by assumption) rfl d_S_hasAfter_6 ?_
  refine is_4 X d_S_hasAfter_7 rfl (by first | exact okp_n | exact okp_i | exact okp_r) ?_
  refine V_iconst (v := 0) X d_S_hasAfter_9 (by decide) ?_
  refine is_5 X d_S_hasAfter_10 rfl (by first | exact okp_n | exact okp_i | exact okp_r) ?_
  exact w_S_hasAfter X ht hr hq hf hu 120 0 _ rfl ⟨_, rfl, by rw [List.drop_zero], rfl⟩

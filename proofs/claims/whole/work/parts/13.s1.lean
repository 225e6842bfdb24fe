-- the class's own private methods over chains of keys
abbrev cS (ta : Option Nat) (bg ck sf nt : Int32) (le : Option Nat) : va_E := .inr (6, [va_rf ta, .int bg, .int ck, .int sf, .int nt, va_rf le])
abbrev LK : Type := List (Nat × Int32 × LV)
def keys (h : Mp) : LK → Prop
  | [] => True
  | (a, n, vs) :: t => h a = some (cKey (n, ptr vs) (ptr t)) ∧ chain cVer h vs ∧ keys h t
def ksorted : LK → Prop
  | [] => True
  | (_, n, _) :: t => (∀ x ∈ t, n < x.2.1) ∧ ksorted t
def kup (n : Int32) (kl : LK) : LK := kl.takeWhile (fun k => decide (k.2.1 ≤ n))
def lastD : Option Nat → LK → Option Nat
  | q, [] => q
  | _, (a, _) :: t => lastD (some a) t
def kfind (n : Int32) (kl : LK) : Option (Nat × Int32 × LV) := kl.find? (fun k => decide (k.2.1 = n))
theorem keys_mem {h : Mp} : ∀ {kl : LK}, keys h kl → ∀ {a : Nat} {n : Int32} {vs : LV}, (a, n, vs) ∈ kl → ∃ nx, h a = some (cKey (n, ptr vs) nx) ∧ chain cVer h vs
  | [], _, _, _, _, hm => by cases hm
  | (b, m, ws) :: t, hk, a, n, vs, hm => by
    rcases List.mem_cons.mp hm with e | hm
    · cases e; exact ⟨_, hk.1, hk.2.1⟩
    · exact keys_mem hk.2.2 hm
theorem kl_last (n : Int32) : ∀ (kl : LK) (q : Option Nat), ksorted kl → (lastD q (kup n kl) = q ∧ ∀ x ∈ kl, n < x.2.1) ∨ (∃ x ∈ kl, lastD q (kup n kl) = some x.1 ∧ x.2.1 ≤ n ∧ ∀ y ∈ kl, y.2.1 ≤ n → y.2.1 ≤ x.2.1)
  | [], q, _ => Or.inl ⟨rfl, fun x hx => by cases hx⟩
  | (a, m, vs) :: t, q, hs => by
    by_cases hm : m ≤ n
    · have e : kup n ((a, m, vs) :: t) = (a, m, vs) :: kup n t := by simp [kup, hm]
      rw [e]
      right
      rcases kl_last n t (some a) hs.2 with ⟨h1, h2⟩ | ⟨x, hx, h1, h2, h3⟩
      · refine ⟨(a, m, vs), List.mem_cons_self, h1, hm, fun y hy hyn => ?_⟩
        rcases List.mem_cons.mp hy with rfl | hy
        · exact Int32.le_refl _
        · exact absurd hyn (Int32.not_le.mpr (h2 y hy))
      · refine ⟨x, List.mem_cons_of_mem _ hx, h1, h2, fun y hy hyn => ?_⟩
        rcases List.mem_cons.mp hy with rfl | hy
        · exact Int32.le_of_lt (hs.1 x hx)
        · exact h3 y hy hyn
    · have e : kup n ((a, m, vs) :: t) = [] := by simp [kup, hm]
      rw [e]
      left
      refine ⟨rfl, fun x hx => ?_⟩
      rcases List.mem_cons.mp hx with rfl | hx
      · exact Int32.not_le.mp hm
      · exact Int32.lt_trans (Int32.not_le.mp hm) (hs.1 x hx)
theorem ks_uniq : ∀ {kl : LK}, ksorted kl → ∀ {x y : Nat × Int32 × LV}, x ∈ kl → y ∈ kl → x.2.1 = y.2.1 → x = y
  | [], _, _, _, hx, _, _ => by cases hx
  | z :: t, hs, x, y, hx, hy, e => by
    rcases List.mem_cons.mp hx with ex | hx2 <;> rcases List.mem_cons.mp hy with ey | hy2
    · rw [ex, ey]
    · subst ex; exact absurd e (Int32.ne_of_lt (hs.1 y hy2))
    · subst ey; exact absurd e.symm (Int32.ne_of_lt (hs.1 x hx2))
    · exact ks_uniq hs.2 hx2 hy2 e
/-- what lastUpTo finds, and whether it is the key itself -/
theorem kl_named {n : Int32} {kl : LK} (hs : ksorted kl) : (lastD none (kup n kl) = none ∧ kfind n kl = none ∧ ∀ x ∈ kl, n < x.2.1) ∨ (∃ x ∈ kl, lastD none (kup n kl) = some x.1 ∧ x.2.1 ≤ n ∧ (∀ y ∈ kl, y.2.1 ≤ n → y.2.1 ≤ x.2.1) ∧ ((x.2.1 = n ∧ kfind n kl = some x) ∨ (x.2.1 ≠ n ∧ kfind n kl = none))) := by
  rcases kl_last n kl none hs with ⟨h1, h2⟩ | ⟨x, hx, h1, h2, h3⟩
  · left
    refine ⟨h1, List.find?_eq_none.mpr fun y hy => ?_, h2⟩
    simp only [decide_eq_true_eq]
    exact fun e => Int32.lt_irrefl (by have := h2 y hy; rwa [e] at this)
  · right
    refine ⟨x, hx, h1, h2, h3, ?_⟩
    by_cases e : x.2.1 = n
    · left
      refine ⟨e, ?_⟩
      cases hf : kfind n kl with
      | none =>
        have := List.find?_eq_none.mp hf x hx
        simp [e] at this
      | some y =>
        have hy := List.mem_of_find?_eq_some hf
        have hyn := List.find?_some hf
        simp only [decide_eq_true_eq] at hyn
        rw [ks_uniq hs hx hy (e.trans hyn.symm)]
    · right
      refine ⟨e, List.find?_eq_none.mpr fun y hy => ?_⟩
      simp only [decide_eq_true_eq]
      intro e2
      exact e (Int32.le_antisymm h2 (by rw [← e2]; exact h3 y hy (by rw [e2]; exact Int32.le_refl _)))
-- lastUpTo
theorem w_S_lastUpTo {K : Cx} {g : GG} {N0 : Nat → Prop} {h : Mp} {post : Option Value → Mp → Prop} {xp : String → Mp → Prop} {mc ms : Nat} (X : Fx K g N0 b_S_lastUpTo 4 "SnapshotStore" { frames := 0, cells := mc, slots := ms, locals := 0 } (some (.object "SnapshotStore$Key")) "lastUpTo" []) {a : Nat} {n : Int32} : ∀ (kl : LK) (q : Option Nat), keys h kl → post (some (va_rf (lastD q (kup n kl)))) h → V K g N0 4 (RQ K g N0 post xp mc ms)  h 0 0 7 [some (va_rf (some a)), some (.int n), some (va_rf q), some (va_rf (ptr kl))] [] := by
  intro kl
  induction kl with
  | nil =>
    intro q hv hp
    refine al_3 X d_S_lastUpTo_7 ?_
    refine V_ifnull (tgt := 29) X d_S_lastUpTo_8 (by decide) (fun c_8 => ?_) (fun b_8 c_8 => ?_)
    · refine al_2 X d_S_lastUpTo_29 ?_
      refine V_aret X rfl d_S_lastUpTo_30 (by first | omega | decide | (dsimp only; first | done | omega)) (by first | omega | decide | (dsimp only; first | done | omega)) ?_
      exact hp
    · cases c_8
  | cons x t ih =>
    obtain ⟨b, m, vs⟩ := x
    intro q hv hp
    obtain ⟨hv1, hv2, hv3⟩ := hv
    dsimp only [ptr]
    refine al_3 X d_S_lastUpTo_7 ?_
    refine V_ifnull (tgt := 29) X d_S_lastUpTo_8 (by decide) (fun c_8 => ?_) (fun b_8 c_8 => ?_)
    · cases c_8
    · refine al_3 X d_S_lastUpTo_11 ?_
      refine gf_S_67 X (by assumption) d_S_lastUpTo_12 ?_
      refine il_1 X d_S_lastUpTo_15 ?_
      refine V_icmp_gt (tgt := 29) X d_S_lastUpTo_16 (by decide) (fun c_16 => ?_) (fun c_16 => ?_)
      · have e : kup n ((b, m, vs) :: t) = [] := by simp [kup, Int32.not_le.mpr c_16]
        refine al_2 X d_S_lastUpTo_29 ?_
        refine V_aret X rfl d_S_lastUpTo_30 (by first | omega | decide | (dsimp only; first | done | omega)) (by first | omega | decide | (dsimp only; first | done | omega)) ?_
        rwa [e] at hp
      · have e : kup n ((b, m, vs) :: t) = (b, m, vs) :: kup n t := by simp [kup, Int32.not_lt.mp c_16]
        refine al_3 X d_S_lastUpTo_19 ?_
        refine as_2 X d_S_lastUpTo_20 rfl (by first | exact okp_n | exact okp_i | exact okp_r) ?_
        refine al_3 X d_S_lastUpTo_21 ?_
        refine gf_S_72 X (by assumption) d_S_lastUpTo_22 ?_
        refine as_3 X d_S_lastUpTo_25 rfl (by first | exact okp_n | exact okp_i | exact okp_r) ?_
        refine V_goto (tgt := 7) X d_S_lastUpTo_26 (by decide) ?_
        exact ih (some b) hv3 (by rwa [e] at hp)
theorem c_S_lastUpTo (l : Launch) (g : GG) (N0 : Nat → Prop) (h : Mp) {a : Nat} {ta : Option Nat} {bg ck sf nt : Int32} {kl : LK} (n : Int32) (hk : h a = some (cS ta bg ck sf nt (ptr kl))) (hv : keys h kl) : Ct l y_S_lastUpTo b_S_lastUpTo 4 (some (.object "SnapshotStore$Key")) 0 0 0 0 g N0 h [va_rf (some a), .int n] (pR (fun r h' => r = lastD none (kup n kl) ∧ h' = h)) nox := by
  refine Ct_of "SnapshotStore" "lastUpTo" [some (va_rf (some a)), some (.int n), none, none] (by decide) rfl rfl (by simp [lg_sl, rf_cat, cat_i, cat_l]) (by simp [toL, lv_args, rf_cat, cat_i, cat_l]) (fun K hl X => ?_)
  refine V_null X d_S_lastUpTo_0 ?_
  refine as_2 X d_S_lastUpTo_1 rfl (by first | exact okp_n | exact okp_i | exact okp_r) ?_
  refine al_0 X d_S_lastUpTo_2 ?_
  refine gf_S_63 X (by assumption) d_S_lastUpTo_3 ?_
  refine as_3 X d_S_lastUpTo_6 rfl (by first | exact okp_n | exact okp_i | exact okp_r) ?_
  exact w_S_lastUpTo X kl none hv ⟨_, rfl, rfl, rfl⟩
-- keyNamed
theorem c_S_keyNamed (l : Launch) (g : GG) (N0 : Nat → Prop) (h : Mp) {a : Nat} {ta : Option Nat} {bg ck sf nt : Int32} {kl : LK} (n : Int32) (hk : h a = some (cS ta bg ck sf nt (ptr kl))) (hv : keys h kl) (hs : ksorted kl) : Ct l y_S_keyNamed b_S_keyNamed 3 (some (.object "SnapshotStore$Key")) 1 23 0 0 g N0 h [va_rf (some a), .int n] (pR (fun r h' => r = (kfind n kl).map (·.1) ∧ h' = h)) nox := by
  refine Ct_of "SnapshotStore" "keyNamed" [some (va_rf (some a)), some (.int n), none] (by decide) rfl rfl (by simp [lg_sl, rf_cat, cat_i, cat_l]) (by simp [toL, lv_args, rf_cat, cat_i, cat_l]) (fun K hl X => ?_)
  refine al_0 X d_S_keyNamed_0 ?_
  refine il_1 X d_S_keyNamed_1 ?_
  refine cl_S_230 X (c_S_lastUpTo _ g N0 h n hk hv) (by assumption) d_S_keyNamed_2 (by refine ⟨?_, ?_⟩ <;> first | decide | (dsimp only; first | done | omega)) (by first | decide | (simp only [List.map, rf_cat, cat_i, cat_l, List.sum_cons, List.sum_nil]; first | done | decide | omega)) ⟨(by first | omega | decide | (dsimp only; first | done | omega)), (by first | omega | decide | (dsimp only; first | done | omega))⟩ (fun _ _ z => z.elim) ?_
  rintro r h' ⟨rfl, rfl⟩
  rcases kl_named (n := n) hs with ⟨h1, h2, -⟩ | ⟨⟨b, m, vs⟩, hx, h1, h2, -, h4⟩
  · rw [h1]
    refine as_2 X d_S_keyNamed_5 rfl (by first | exact okp_n | exact okp_i | exact okp_r) ?_
    refine al_2 X d_S_keyNamed_6 ?_
    refine V_ifnull (tgt := 22) X d_S_keyNamed_7 (by decide) (fun c_7 => ?_) (fun b_7 c_7 => ?_)
    · refine V_null X d_S_keyNamed_22 ?_
      refine V_aret X rfl d_S_keyNamed_23 (by first | omega | decide | (dsimp only; first | done | omega)) (by first | omega | decide | (dsimp only; first | done | omega)) ?_
      exact ⟨_, rfl, by rw [h2]; rfl, rfl⟩
    · cases c_7
  · rw [h1]
    obtain ⟨nx, hb, -⟩ := keys_mem hv hx
    refine as_2 X d_S_keyNamed_5 rfl (by first | exact okp_n | exact okp_i | exact okp_r) ?_
    refine al_2 X d_S_keyNamed_6 ?_
    refine V_ifnull (tgt := 22) X d_S_keyNamed_7 (by decide) (fun c_7 => ?_) (fun b_7 c_7 => ?_)
    · cases c_7
    · refine al_2 X d_S_keyNamed_10 ?_
      refine gf_S_67 X (by assumption) d_S_keyNamed_11 ?_
      refine il_1 X d_S_keyNamed_14 ?_
      refine V_icmp_ne (tgt := 22) X d_S_keyNamed_15 (by decide) (fun c_15 => ?_) (fun c_15 => ?_)
      · rcases h4 with ⟨e, -⟩ | ⟨-, h4⟩
        · exact absurd e c_15
        · refine V_null X d_S_keyNamed_22 ?_
          refine V_aret X rfl d_S_keyNamed_23 (by first | omega | decide | (dsimp only; first | done | omega)) (by first | omega | decide | (dsimp only; first | done | omega)) ?_
          exact ⟨_, rfl, by rw [h4]; rfl, rfl⟩
      · rcases h4 with ⟨-, h4⟩ | ⟨e, -⟩
        · refine al_2 X d_S_keyNamed_18 ?_
          refine V_goto (tgt := 23) X d_S_keyNamed_19 (by decide) ?_
          refine V_aret X rfl d_S_keyNamed_23 (by first | omega | decide | (dsimp only; first | done | omega)) (by first | omega | decide | (dsimp only; first | done | omega)) ?_
          exact ⟨_, rfl, by rw [h4]; rfl, rfl⟩
        · exact absurd c_15 e
-- valueOrZero
def voz (c : Int64) : Int32 := if c = 4294967296 then 0 else c.toInt32
theorem c_S_valueOrZero (l : Launch) (g : GG) (N0 : Nat → Prop) (h : Mp) (c : Int64) : Ct l y_S_valueOrZero b_S_valueOrZero 2 (some .int) 0 0 0 0 g N0 h [.long c] (pI (fun r h' => r = voz c ∧ h' = h)) nox := by
  refine Ct_of "SnapshotStore" "valueOrZero" [some (.long c), none] (by decide) rfl rfl (by simp [lg_sl, rf_cat, cat_i, cat_l]) (by simp [toL, lv_args, rf_cat, cat_i, cat_l]) (fun K hl X => ?_)
  refine ll_0 X d_S_valueOrZero_0 ?_
  refine V_ldc2 X k_65 d_S_valueOrZero_1 ?_
  refine V_lcmp X d_S_valueOrZero_4 ?_
  refine V_if_ne (tgt := 12) X d_S_valueOrZero_5 (by decide) (fun c_5 => ?_) (fun c_5 => ?_)
  · have e : ¬ c = 4294967296 := fun e => c_5 ((lg_cmp_eq _ _).mpr e)
    refine ll_0 X d_S_valueOrZero_12 ?_
    refine V_l2i X d_S_valueOrZero_13 ?_
    refine V_iret X rfl d_S_valueOrZero_14 (by first | omega | decide | (dsimp only; first | done | omega)) (by first | omega | decide | (dsimp only; first | done | omega)) ?_
    exact ⟨_, rfl, by simp [voz, e], rfl⟩
  · have e : c = 4294967296 := (lg_cmp_eq _ _).mp c_5
    refine V_iconst (v := 0) X d_S_valueOrZero_8 (by decide) ?_
    refine V_goto (tgt := 14) X d_S_valueOrZero_9 (by decide) ?_
    refine V_iret X rfl d_S_valueOrZero_14 (by first | omega | decide | (dsimp only; first | done | omega)) (by first | omega | decide | (dsimp only; first | done | omega)) ?_
    exact ⟨_, rfl, by simp [voz, e], rfl⟩
-- seenBy
def wcont (ws : LW) : Option Int64 := match ws with
  | [] => none
  | (_, _, c, _) :: _ => some c
def seenC (sn : Int32) (ws : LW) (n : Int32) (vs : LV) : Int64 := (wcont (wdrop n ws)).getD (vcont (vdrop sn vs))
theorem c_S_seenBy (l : Launch) (g : GG) (N0 : Nat → Prop) (h : Mp) {a b : Nat} {lv sn se sp ha : Int32} {ws : LW} {rg pl nx : Option Nat} {n : Int32} {vs : LV} (ht : h a = some (cTx lv sn se sp ha (ptr ws) rg pl)) (hw : chain cWr h ws) (hk : h b = some (cKey (n, ptr vs) nx)) (hv : chain cVer h vs) : Ct l y_S_seenBy b_S_seenBy 3 (some .long) 2 44 0 0 g N0 h [va_rf (some a), va_rf (some b)] (pL (fun r h' => r = seenC sn ws n vs ∧ h' = h)) nox := by
  refine Ct_of "SnapshotStore" "seenBy" [some (va_rf (some a)), some (va_rf (some b)), none] (by decide) rfl rfl (by simp [lg_sl, rf_cat, cat_i, cat_l]) (by simp [toL, lv_args, rf_cat, cat_i, cat_l]) (fun K hl X => ?_)
  refine al_1 X d_S_seenBy_0 ?_
  refine V_ifnonnull (tgt := 8) X d_S_seenBy_1 (by decide) (fun b_1 c_1 => ?_) (fun c_1 => ?_)
  · refine al_0 X d_S_seenBy_8 ?_
    refine al_1 X d_S_seenBy_9 ?_
    refine gf_S_67 X (by assumption) d_S_seenBy_10 ?_
    refine cl_S_221 X (c_Tx_writeOf _ g N0 h n ht hw) (by assumption) d_S_seenBy_13 (by refine ⟨?_, ?_⟩ <;> first | decide | (dsimp only; first | done | omega)) (by first | decide | (simp only [List.map, rf_cat, cat_i, cat_l, List.sum_cons, List.sum_nil]; first | done | decide | omega)) ⟨(by first | omega | decide | (dsimp only; first | done | omega)), (by first | omega | decide | (dsimp only; first | done | omega))⟩ (fun _ _ z => z.elim) ?_
    rintro r h' ⟨rfl, rfl⟩
    have hd := chain_drop (fun w : Nat × Int32 × Int64 × Int32 => !decide (w.2.1 = n)) hw
    change chain cWr h' (wdrop n ws) at hd
    have e : seenC sn ws n vs = (wcont (wdrop n ws)).getD (vcont (vdrop sn vs)) := rfl
    rw [e]
    generalize wdrop n ws = us at hd ⊢
    refine as_2 X d_S_seenBy_16 rfl (by first | exact okp_n | exact okp_i | exact okp_r) ?_
    refine al_2 X d_S_seenBy_17 ?_
    cases us with
    | nil =>
      refine V_ifnull (tgt := 28) X d_S_seenBy_18 (by decide) (fun c_18 => ?_) (fun b_18 c_18 => ?_)
      · refine al_1 X d_S_seenBy_28 ?_
        refine al_0 X d_S_seenBy_29 ?_
        refine gf_S_166 X (by assumption) d_S_seenBy_30 ?_
        refine cl_S_171 X (c_Key_contentAt _ g N0 h' sn hk hv) (by assumption) d_S_seenBy_33 (by refine ⟨?_, ?_⟩ <;> first | decide | (dsimp only; first | done | omega)) (by first | decide | (simp only [List.map, rf_cat, cat_i, cat_l, List.sum_cons, List.sum_nil]; first | done | decide | omega)) ⟨(by first | omega | decide | (dsimp only; first | done | omega)), (by first | omega | decide | (dsimp only; first | done | omega))⟩ (fun _ _ z => z.elim) ?_
        rintro r h2 ⟨rfl, rfl⟩
        refine V_lret X rfl d_S_seenBy_36 (by first | omega | decide | (dsimp only; first | done | omega)) (by first | omega | decide | (dsimp only; first | done | omega)) ?_
        exact ⟨_, rfl, rfl, rfl⟩
      · cases c_18
    | cons x t =>
      obtain ⟨c, m, v, k⟩ := x
      obtain ⟨hd1, -⟩ := hd
      dsimp only [ptr]
      refine V_ifnull (tgt := 28) X d_S_seenBy_18 (by decide) (fun c_18 => ?_) (fun b_18 c_18 => ?_)
      · cases c_18
      · refine al_2 X d_S_seenBy_21 ?_
        refine gf_S_236 X (by assumption) d_S_seenBy_22 ?_
        refine V_goto (tgt := 36) X d_S_seenBy_25 (by decide) ?_
        refine V_lret X rfl d_S_seenBy_36 (by first | omega | decide | (dsimp only; first | done | omega)) (by first | omega | decide | (dsimp only; first | done | omega)) ?_
        exact ⟨_, rfl, rfl, rfl⟩
  · cases c_1
theorem c_S_seenBy0 (l : Launch) (g : GG) (N0 : Nat → Prop) (h : Mp) {a : Nat} : Ct l y_S_seenBy b_S_seenBy 3 (some .long) 2 44 0 0 g N0 h [va_rf (some a), va_rf none] (pL (fun r h' => r = 4294967296 ∧ h' = h)) nox := by
  refine Ct_of "SnapshotStore" "seenBy" [some (va_rf (some a)), some (va_rf none), none] (by decide) rfl rfl (by simp [lg_sl, rf_cat, cat_i, cat_l]) (by simp [toL, lv_args, rf_cat, cat_i, cat_l]) (fun K hl X => ?_)
  refine al_1 X d_S_seenBy_0 ?_
  refine V_ifnonnull (tgt := 8) X d_S_seenBy_1 (by decide) (fun b_1 c_1 => ?_) (fun c_1 => ?_)
  · cases c_1
  · refine V_ldc2 X k_65 d_S_seenBy_4 ?_
    refine V_lret X rfl d_S_seenBy_7 (by first | omega | decide | (dsimp only; first | done | omega)) (by first | omega | decide | (dsimp only; first | done | omega)) ?_
    exact ⟨_, rfl, rfl, rfl⟩

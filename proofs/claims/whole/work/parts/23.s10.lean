-- dropOldestErased, vacuum, crash, the constructor
def vtrim (p : Int32 → Int32 → Bool) (vs : LV) : LV := match vs.getLast? with
  | none => vs
  | some (_, s, c) => if c = 4294967296 ∧ p 0 s = false then vs.dropLast else vs
theorem kset_self {n : Int32} {kl : LK} {b : Nat} {vs : LV} (hs : ksorted kl) (hx : (b, n, vs) ∈ kl) : kset n vs kl = kl := by
  have : ∀ k ∈ kl, (if k.2.1 = n then (k.1, k.2.1, vs) else k) = k := fun k hk => by
    by_cases e : k.2.1 = n
    · have := ks_uniq hs hk hx e
      subst this; simp
    · simp [e]
  rw [kset, List.map_congr_left this, List.map_id']
theorem w_S_dropOldest {K : Cx} {g : GG} {N0 : Nat → Prop} {h : Mp} {post : Option Value → Mp → Prop} {xp : String → Mp → Prop} {mc ms : Nat} (X : Fx K g N0 b_S_dropOldestErased 4 "SnapshotStore" { frames := 1, cells := mc, slots := ms, locals := 26 } (some .int) "dropOldestErased" []) {s b : Nat} : ∀ (cur done : LV) (x : Nat × Int32 × Int64), chain cVer h (cur ++ [x]) → V K g N0 4 (RQ K g N0 post xp mc ms)  h 0 0 28 [some (va_rf (some s)), some (va_rf (some b)), some (va_rf (lastp (done ++ cur))), some (va_rf (some x.1))] [] → V K g N0 4 (RQ K g N0 post xp mc ms)  h 0 0 7 [some (va_rf (some s)), some (va_rf (some b)), some (va_rf (lastp done)), some (va_rf (ptr (cur ++ [x])))] [] := by
  intro cur
  induction cur with
  | nil =>
    intro done x hc hk
    obtain ⟨a, sx, cx⟩ := x
    have h1 := hc.1
    dsimp only [ptr, List.nil_append] at h1 ⊢
    refine al_3 X d_S_dropOldestErased_7 ?_
    refine V_ifnull (tgt := 28) X d_S_dropOldestErased_8 (by decide) (fun c_8 => ?_) (fun b_8 c_8 => ?_)
    · cases c_8
    · refine al_3 X d_S_dropOldestErased_11 ?_
      refine gf_S_265 X (by assumption) d_S_dropOldestErased_12 ?_
      refine V_ifnull (tgt := 28) X d_S_dropOldestErased_15 (by decide) (fun c_15 => ?_) (fun b_15 c_15 => ?_)
      · rwa [List.append_nil] at hk
      · cases c_15
  | cons y t ih =>
    intro done x hc hk
    obtain ⟨a, sx, cx⟩ := y
    have h1 := hc.1
    have hne : ∃ q, ptr (t ++ [x]) = some q := by cases t <;> exact ⟨_, rfl⟩
    obtain ⟨q, hq⟩ := hne
    change h a = some (cVer (sx, cx) (ptr (t ++ [x]))) at h1
    show V K g N0 4 (RQ K g N0 post xp mc ms) h 0 0 7 [some (va_rf (some s)), some (va_rf (some b)), some (va_rf (lastp done)), some (va_rf (some a))] []
    refine al_3 X d_S_dropOldestErased_7 ?_
    refine V_ifnull (tgt := 28) X d_S_dropOldestErased_8 (by decide) (fun c_8 => ?_) (fun b_8 c_8 => ?_)
    · cases c_8
    · refine al_3 X d_S_dropOldestErased_11 ?_
      refine gf_S_265 X (by assumption) d_S_dropOldestErased_12 ?_
      refine V_ifnull (tgt := 28) X d_S_dropOldestErased_15 (by decide) (fun c_15 => ?_) (fun b_15 c_15 => ?_)
      · rw [hq] at c_15; cases c_15
      · refine al_3 X d_S_dropOldestErased_18 ?_
        refine as_2 X d_S_dropOldestErased_19 rfl (by first | exact okp_n | exact okp_i | exact okp_r) ?_
        refine al_3 X d_S_dropOldestErased_20 ?_
        refine gf_S_265 X (by assumption) d_S_dropOldestErased_21 ?_
        refine as_3 X d_S_dropOldestErased_24 rfl (by first | exact okp_n | exact okp_i | exact okp_r) ?_
        refine V_goto (tgt := 7) X d_S_dropOldestErased_25 (by decide) ?_
        have lp : some a = lastp (done ++ [(a, sx, cx)]) := by simp [lastp]
        rw [lp]
        exact ih (done ++ [(a, sx, cx)]) x hc.2 (by rwa [List.append_assoc])
theorem c_S_dropOldestErased (l : Launch) (g : GG) (N0 : Nat → Prop) (h : Mp) {s ta b : Nat} {n ck sf nt : Int32} {kl : LK} {tl : List CT} {vs : LV} (hx : (b, n, vs) ∈ kl) (w : World g s ta h ck sf nt kl tl) : Ct l y_S_dropOldestErased b_S_dropOldestErased 4 (some .int) 1 26 0 0 g N0 h [va_rf (some s), va_rf (some b)] (pI (fun r h' => r = nI (vs.length - (vtrim (look ck sf tl) vs).length) ∧ World g s ta h' ck sf nt (kset n (vtrim (look ck sf tl) vs) kl) tl)) nox := by
  refine Ct_of "SnapshotStore" "dropOldestErased" [some (va_rf (some s)), some (va_rf (some b)), none, none] (by decide) rfl rfl (by simp [lg_sl, rf_cat, cat_i, cat_l]) (by simp [toL, lv_args, rf_cat, cat_i, cat_l]) (fun K hl X => ?_)
  obtain ⟨nx, hb, hcv⟩ := keys_mem w.hk hx
  obtain ⟨f, hq, hf⟩ := w.ha
  refine V_null X d_S_dropOldestErased_0 ?_
  refine as_2 X d_S_dropOldestErased_1 rfl (by first | exact okp_n | exact okp_i | exact okp_r) ?_
  refine al_1 X d_S_dropOldestErased_2 ?_
  refine gf_S_156 X (by assumption) d_S_dropOldestErased_3 ?_
  refine as_3 X d_S_dropOldestErased_6 rfl (by first | exact okp_n | exact okp_i | exact okp_r) ?_
  rcases List.eq_nil_or_concat vs with rfl | ⟨d, x, rfl⟩
  · refine al_3 X d_S_dropOldestErased_7 ?_
    refine V_ifnull (tgt := 28) X d_S_dropOldestErased_8 (by decide) (fun c_8 => ?_) (fun b_8 c_8 => ?_)
    · refine al_3 X d_S_dropOldestErased_28 ?_
      refine V_ifnull (tgt := 55) X d_S_dropOldestErased_29 (by decide) (fun c_29 => ?_) (fun b_29 c_29 => ?_)
      · refine V_iconst (v := 0) X d_S_dropOldestErased_55 (by decide) ?_
        refine V_iret X rfl d_S_dropOldestErased_56 (by first | omega | decide | (dsimp only; first | done | omega)) (by first | omega | decide | (dsimp only; first | done | omega)) ?_
        exact ⟨_, rfl, rfl, by rw [show vtrim (look ck sf tl) [] = [] from rfl, kset_self w.ho hx]; exact w⟩
      · cases c_29
    · cases c_8
  · rw [List.concat_eq_append] at hx hb hcv ⊢
    have hlast : chain cVer h [x] := chain_app hcv
    obtain ⟨xa, xs, xc⟩ := x
    have hx1 := hlast.1
    have htr : vtrim (look ck sf tl) (d ++ [(xa, xs, xc)]) = if xc = 4294967296 ∧ look ck sf tl 0 xs = false then d else d ++ [(xa, xs, xc)] := by
      rw [vtrim, List.getLast?_append]
      simp
    refine w_S_dropOldest X d [] (xa, xs, xc) hcv ?_
    rw [List.nil_append]
    have no : ¬ (xc = 4294967296 ∧ look ck sf tl 0 xs = false) → V K g N0 4 (RQ K g N0 (pI (fun r h' => r = nI ((d ++ [(xa, xs, xc)]).length - (vtrim (look ck sf tl) (d ++ [(xa, xs, xc)])).length) ∧ World g s ta h' ck sf nt (kset n (vtrim (look ck sf tl) (d ++ [(xa, xs, xc)])) kl) tl)) nox 0 0) h 0 0 55 [some (va_rf (some s)), some (va_rf (some b)), some (va_rf (lastp d)), some (va_rf (some xa))] [] := by
      intro hn
      refine V_iconst (v := 0) X d_S_dropOldestErased_55 (by decide) ?_
      refine V_iret X rfl d_S_dropOldestErased_56 (by first | omega | decide | (dsimp only; first | done | omega)) (by first | omega | decide | (dsimp only; first | done | omega)) ?_
      exact ⟨_, rfl, by rw [htr, if_neg hn, Nat.sub_self, nI_0], by rw [htr, if_neg hn, kset_self w.ho hx]; exact w⟩
    dsimp only
    refine al_3 X d_S_dropOldestErased_28 ?_
    refine V_ifnull (tgt := 55) X d_S_dropOldestErased_29 (by decide) (fun c_29 => ?_) (fun b_29 c_29 => ?_)
    · cases c_29
    · refine al_3 X d_S_dropOldestErased_32 ?_
      refine gf_S_268 X (by assumption) d_S_dropOldestErased_33 ?_
      refine V_ldc2 X k_65 d_S_dropOldestErased_36 ?_
      refine V_lcmp X d_S_dropOldestErased_39 ?_
      refine V_if_ne (tgt := 55) X d_S_dropOldestErased_40 (by decide) (fun c_40 => ?_) (fun c_40 => ?_)
      · exact no (fun z => c_40 ((lg_cmp_eq _ _).mpr z.1))
      · have e1 : xc = 4294967296 := (lg_cmp_eq _ _).mp c_40
        refine al_0 X d_S_dropOldestErased_43 ?_
        refine V_iconst (v := 0) X d_S_dropOldestErased_44 (by decide) ?_
        refine al_3 X d_S_dropOldestErased_45 ?_
        refine gf_S_241 X (by assumption) d_S_dropOldestErased_46 ?_
        refine cl_S_257 X (c_S_isLookedAt _ g N0 h 0 xs w.hs hq hf w.hu) w.hs d_S_dropOldestErased_49 (by refine ⟨?_, ?_⟩ <;> first | decide | (dsimp only; first | done | omega)) (by first | decide | (simp only [List.map, rf_cat, cat_i, cat_l, List.sum_cons, List.sum_nil]; first | done | decide | omega)) ⟨(by first | omega | decide | (dsimp only; first | done | omega)), (by first | omega | decide | (dsimp only; first | done | omega))⟩ (fun _ _ z => z.elim) ?_
        rintro r h' ⟨rfl, rfl⟩
        refine V_if_eq (tgt := 57) X d_S_dropOldestErased_52 (by decide) (fun c_52 => ?_) (fun c_52 => ?_)
        · have e2 : look ck sf tl 0 xs = false := b01_f c_52
          have hr : nI ((d ++ [(xa, xs, xc)]).length - (vtrim (look ck sf tl) (d ++ [(xa, xs, xc)])).length) = 1 := by
            rw [htr, if_pos ⟨e1, e2⟩, List.length_append, Nat.add_sub_cancel_left]; rfl
          rw [hr]
          rcases List.eq_nil_or_concat d with rfl | ⟨d2, y, rfl⟩
          · refine al_1 X d_S_dropOldestErased_57 ?_
            refine al_3 X d_S_dropOldestErased_58 ?_
            refine al_2 X d_S_dropOldestErased_59 ?_
            refine cl_S_261 X (c_Key_unlink _ g N0 h' hb hx1 none (fun n hn => by cases hn)) (by assumption) d_S_dropOldestErased_60 (by refine ⟨?_, ?_⟩ <;> first | decide | (dsimp only; first | done | omega)) (by first | decide | (simp only [List.map, rf_cat, cat_i, cat_l, List.sum_cons, List.sum_nil]; first | done | decide | omega)) ⟨(by first | omega | decide | (dsimp only; first | done | omega)), (by first | omega | decide | (dsimp only; first | done | omega))⟩ (fun _ _ z => z.elim) ?_
            rintro h2 ⟨hn1, -⟩
            have e3 := hn1 rfl
            subst e3
            refine V_iconst (v := 1) X d_S_dropOldestErased_63 (by decide) ?_
            refine V_iret X rfl d_S_dropOldestErased_64 (by first | omega | decide | (dsimp only; first | done | omega)) (by first | omega | decide | (dsimp only; first | done | omega)) ?_
            exact ⟨_, rfl, rfl, by rw [htr, if_pos ⟨e1, e2⟩]; exact w.cutHead hx hb⟩
          · obtain ⟨ya, ys, yc⟩ := y
            rw [List.concat_eq_append] at *
            have el : d2 ++ [(ya, ys, yc)] ++ [(xa, xs, xc)] = d2 ++ (ya, ys, yc) :: (xa, xs, xc) :: [] := by simp
            have lp : lastp (d2 ++ [(ya, ys, yc)]) = some ya := by simp [lastp]
            rw [el] at hcv hx
            have hyc := (chain_app hcv).1
            rw [lp]
            refine al_1 X d_S_dropOldestErased_57 ?_
            refine al_3 X d_S_dropOldestErased_58 ?_
            refine al_2 X d_S_dropOldestErased_59 ?_
            refine cl_S_261 X (c_Key_unlink _ g N0 h' hb hx1 (some ya) (fun n hn => by cases hn; exact ⟨_, _, _, hyc⟩)) (by assumption) d_S_dropOldestErased_60 (by refine ⟨?_, ?_⟩ <;> first | decide | (dsimp only; first | done | omega)) (by first | decide | (simp only [List.map, rf_cat, cat_i, cat_l, List.sum_cons, List.sum_nil]; first | done | decide | omega)) ⟨(by first | omega | decide | (dsimp only; first | done | omega)), (by first | omega | decide | (dsimp only; first | done | omega))⟩ (fun _ _ z => z.elim) ?_
            rintro h2 ⟨-, hn2⟩
            have e3 := hn2 ya ys yc _ rfl hyc
            subst e3
            refine V_iconst (v := 1) X d_S_dropOldestErased_63 (by decide) ?_
            refine V_iret X rfl d_S_dropOldestErased_64 (by first | omega | decide | (dsimp only; first | done | omega)) (by first | omega | decide | (dsimp only; first | done | omega)) ?_
            exact ⟨_, rfl, rfl, by rw [htr, if_pos ⟨e1, e2⟩]; exact w.cut hx⟩
        · have e2 : look ck sf tl 0 xs = true := b01_t c_52
          exact no (fun z => by rw [e2] at z; cases z.2)
-- vacuum
theorem kset_mid {n : Int32} {vs vs' : LV} {b : Nat} : ∀ {pre t : LK}, ksorted (pre ++ (b, n, vs) :: t) → kset n vs' (pre ++ (b, n, vs) :: t) = pre ++ (b, n, vs') :: t
  | [], t, hs => by
    show (if n = n then (b, n, vs') else (b, n, vs)) :: kset n vs' t = _
    rw [if_pos rfl, kset_id (fun x hx => (Int32.ne_of_lt (hs.1 x hx)).symm)]
    rfl
  | (a, m, us) :: pre, t, hs => by
    have hmn : m ≠ n := Int32.ne_of_lt (hs.1 (b, n, vs) (List.mem_append_right _ List.mem_cons_self))
    show (if m = n then (a, m, vs') else (a, m, us)) :: kset n vs' (pre ++ (b, n, vs) :: t) = _
    rw [if_neg hmn, kset_mid hs.2]
    rfl
theorem keys_mid {h : Mp} {n : Int32} {vs : LV} {b : Nat} : ∀ {pre t : LK}, keys h (pre ++ (b, n, vs) :: t) → h b = some (cKey (n, ptr vs) (ptr t))
  | [], _, hk => hk.1
  | _ :: pre, _, hk => keys_mid (pre := pre) hk.2.2
def vac1 (p : Int32 → Int32 → Bool) (vs : LV) : LV := vtrim p (vkeep p 2147483647 vs)
def vacK (p : Int32 → Int32 → Bool) (k : Nat × Int32 × LV) : Nat × Int32 × LV := (k.1, k.2.1, vac1 p k.2.2)
def vacN (p : Int32 → Int32 → Bool) : LK → Nat
  | [] => 0
  | (_, _, vs) :: t => (vs.length - (vac1 p vs).length) + vacN p t
theorem vtrim_le (p : Int32 → Int32 → Bool) (vs : LV) : (vtrim p vs).length ≤ vs.length := by
  rw [vtrim]
  split
  · exact Nat.le_refl _
  · split
    · rw [List.length_dropLast]; omega
    · exact Nat.le_refl _
theorem w_S_vacuum {K : Cx} {g : GG} {N0 : Nat → Prop} {post : Option Value → Mp → Prop} {xp : String → Mp → Prop} {mc ms : Nat} (X : Fx K g N0 b_S_vacuum 3 "SnapshotStore" { frames := 2, cells := mc, slots := ms, locals := 51 } (some .int) "vacuum" []) {s ta : Nat} {ck sf nt : Int32} {tl : List CT} : ∀ (t pre : LK) (h : Mp) (m : Nat), World g s ta h ck sf nt (pre ++ t) tl → (∀ h', World g s ta h' ck sf nt (pre ++ t.map (vacK (look ck sf tl))) tl → post (some (.int (nI (m + vacN (look ck sf tl) t)))) h') → V K g N0 3 (RQ K g N0 post xp mc ms)  h 0 0 7 [some (va_rf (some s)), some (.int (nI m)), some (va_rf (ptr t))] [] := by
  intro t
  induction t with
  | nil =>
    intro pre h m w hp
    refine al_2 X d_S_vacuum_7 ?_
    refine V_ifnull (tgt := 35) X d_S_vacuum_8 (by decide) (fun c_8 => ?_) (fun b_8 c_8 => ?_)
    · refine il_1 X d_S_vacuum_35 ?_
      refine V_iret X rfl d_S_vacuum_36 (by first | omega | decide | (dsimp only; first | done | omega)) (by first | omega | decide | (dsimp only; first | done | omega)) ?_
      exact hp h w
    · cases c_8
  | cons x t ih =>
    obtain ⟨b, n, vs⟩ := x
    intro pre h m w hp
    dsimp only [ptr]
    refine al_2 X d_S_vacuum_7 ?_
    refine V_ifnull (tgt := 35) X d_S_vacuum_8 (by decide) (fun c_8 => ?_) (fun b_8 c_8 => ?_)
    · cases c_8
    · refine il_1 X d_S_vacuum_11 ?_
      refine al_0 X d_S_vacuum_12 ?_
      refine al_2 X d_S_vacuum_13 ?_
      have hm1 : (b, n, vs) ∈ pre ++ (b, n, vs) :: t := List.mem_append_right _ List.mem_cons_self
      refine cl_S_142 X (c_S_dropUnseen _ g N0 h hm1 w) w.hs d_S_vacuum_14 (by refine ⟨?_, ?_⟩ <;> first | decide | (dsimp only; first | done | omega)) (by first | decide | (simp only [List.map, rf_cat, cat_i, cat_l, List.sum_cons, List.sum_nil]; first | done | decide | omega)) ⟨(by first | omega | decide | (dsimp only; first | done | omega)), (by first | omega | decide | (dsimp only; first | done | omega))⟩ (fun _ _ z => z.elim) ?_
      rintro r h1 ⟨rfl, w1⟩
      rw [kset_mid w.ho] at w1
      refine V_iadd X d_S_vacuum_17 ?_
      rw [nI_add]
      refine is_1 X d_S_vacuum_18 rfl (by first | exact okp_n | exact okp_i | exact okp_r) ?_
      refine il_1 X d_S_vacuum_19 ?_
      refine al_0 X d_S_vacuum_20 ?_
      refine al_2 X d_S_vacuum_21 ?_
      have hm2 : (b, n, vkeep (look ck sf tl) 2147483647 vs) ∈ pre ++ (b, n, vkeep (look ck sf tl) 2147483647 vs) :: t := List.mem_append_right _ List.mem_cons_self
      refine cl_S_146 X (c_S_dropOldestErased _ g N0 h1 hm2 w1) w1.hs d_S_vacuum_22 (by refine ⟨?_, ?_⟩ <;> first | decide | (dsimp only; first | done | omega)) (by first | decide | (simp only [List.map, rf_cat, cat_i, cat_l, List.sum_cons, List.sum_nil]; first | done | decide | omega)) ⟨(by first | omega | decide | (dsimp only; first | done | omega)), (by first | omega | decide | (dsimp only; first | done | omega))⟩ (fun _ _ z => z.elim) ?_
      rintro r h2 ⟨rfl, w2⟩
      rw [kset_mid w1.ho] at w2
      have hb := keys_mid w2.hk
      refine V_iadd X d_S_vacuum_25 ?_
      rw [nI_add]
      refine is_1 X d_S_vacuum_26 rfl (by first | exact okp_n | exact okp_i | exact okp_r) ?_
      refine al_2 X d_S_vacuum_27 ?_
      refine gf_S_72 X (by assumption) d_S_vacuum_28 ?_
      refine as_2 X d_S_vacuum_31 rfl (by first | exact okp_n | exact okp_i | exact okp_r) ?_
      refine V_goto (tgt := 7) X d_S_vacuum_32 (by decide) ?_
      have el : ∀ l : LK, pre ++ (b, n, vac1 (look ck sf tl) vs) :: l = (pre ++ [(b, n, vac1 (look ck sf tl) vs)]) ++ l := fun l => by simp
      refine ih (pre ++ [(b, n, vac1 (look ck sf tl) vs)]) h2 _ (by rw [← el]; exact w2) (fun h3 w3 => ?_)
      have hh := hp h3 (by rw [List.map_cons, show vacK (look ck sf tl) (b, n, vs) = (b, n, vac1 (look ck sf tl) vs) from rfl, el]; exact w3)
      have l1 := vkeep_le (look ck sf tl) 2147483647 vs
      have l2 := vtrim_le (look ck sf tl) (vkeep (look ck sf tl) 2147483647 vs)
      rw [vacN, vac1] at hh
      rwa [show m + (vs.length - (vkeep (look ck sf tl) 2147483647 vs).length) + ((vkeep (look ck sf tl) 2147483647 vs).length - (vtrim (look ck sf tl) (vkeep (look ck sf tl) 2147483647 vs)).length) + vacN (look ck sf tl) t = m + (vs.length - (vtrim (look ck sf tl) (vkeep (look ck sf tl) 2147483647 vs)).length + vacN (look ck sf tl) t) by omega]
theorem c_S_vacuum (l : Launch) (g : GG) (N0 : Nat → Prop) (h : Mp) {s ta : Nat} {ck sf nt : Int32} {kl : LK} {tl : List CT} (w : World g s ta h ck sf nt kl tl) : Ct l y_S_vacuum b_S_vacuum 3 (some .int) 2 51 0 0 g N0 h [va_rf (some s)] (pI (fun r h' => r = nI (vacN (look ck sf tl) kl) ∧ World g s ta h' ck sf nt (kl.map (vacK (look ck sf tl))) tl)) nox := by
  refine Ct_of "SnapshotStore" "vacuum" [some (va_rf (some s)), none, none] (by decide) rfl rfl (by simp [lg_sl, rf_cat, cat_i, cat_l]) (by simp [toL, lv_args, rf_cat, cat_i, cat_l]) (fun K hl X => ?_)
  have hs := w.hs
  refine V_iconst (v := 0) X d_S_vacuum_0 (by decide) ?_
  refine is_1 X d_S_vacuum_1 rfl (by first | exact okp_n | exact okp_i | exact okp_r) ?_
  refine al_0 X d_S_vacuum_2 ?_
  refine gf_S_63 X (by assumption) d_S_vacuum_3 ?_
  refine as_2 X d_S_vacuum_6 rfl (by first | exact okp_n | exact okp_i | exact okp_r) ?_
  exact w_S_vacuum X kl [] h 0 w (fun h' w' => ⟨_, rfl, by rw [Nat.zero_add], w'⟩)
-- crash
def craK (sf : Int32) (k : Nat × Int32 × LV) : Nat × Int32 × LV := (k.1, k.2.1, vdrop sf k.2.2)
def craT (sf : Int32) (t : CT) : CT := if ctS t = 0 then endT 2 t else if ctS t = 1 ∧ sf < t.2.2.2.2.1 then endT 3 t else t
def craL (sf : Int32) (t : CT) : Bool := decide (ctS t = 1) && decide (sf < t.2.2.2.2.1)
theorem vord_drop {c sf : Int32} : ∀ {vs : LV}, vord c vs → vord sf (vdrop sf vs)
  | [], _ => trivial
  | (a, s, ct) :: t, hv => by
    rw [vdrop, List.dropWhile_cons]
    by_cases e : s ≤ sf
    · simp only [e, decide_true, Bool.not_true, Bool.false_eq_true, if_false]
      have : ∀ {l : LV} {x : Nat × Int32 × Int64}, x.2.1 ≤ sf → vord c (x :: l) → vord sf (x :: l) := by
        intro l
        induction l with
        | nil => intro x hx hv; exact ⟨hx, hv.2.1, trivial⟩
        | cons y l ih => intro x hx hv; exact ⟨hx, hv.2.1, ih (Int32.le_trans (Int32.le_of_lt (hv.2.1 y rfl)) hx) hv.2.2⟩
      exact this e hv
    · simp only [e, decide_false, Bool.not_false, if_true]
      exact vord_drop hv.2.2
theorem vord_dw {c : Int32} (p : Nat × Int32 × Int64 → Bool) : ∀ {vs : LV}, vord c vs → vord c (vs.dropWhile p)
  | [], _ => trivial
  | (a, s, ct) :: t, hv => by
    rw [List.dropWhile_cons]
    split
    · exact vord_dw p hv.2.2
    · exact hv
theorem vord_sub {vb : Int32} {g : GG} {s ta : Nat} {h : Mp} {ck sf nt : Int32} {kl : LK} {tl : List CT} (w : WorldV vb g s ta h ck sf nt kl tl) {b : Nat} {n : Int32} {vs : LV} {x : Int32} (hm : (b, n, vs) ∈ kl) : vord vb (vdrop x vs) := vord_dw _ (w.hv _ hm)
theorem w_S_crash1 {K : Cx} {g : GG} {N0 : Nat → Prop} {post : Option Value → Mp → Prop} {xp : String → Mp → Prop} {mc ms : Nat} (X : Fx K g N0 b_S_crash 6 "SnapshotStore" { frames := 1, cells := mc, slots := ms, locals := 22 } (some .int) "crash" []) {s ta : Nat} {vb ck sf nt : Int32} {tl : List CT} {Q : State → Prop} : ∀ (t pre : LK) (h : Mp), WorldV vb g s ta h ck sf nt (pre ++ t) tl → (∀ h', WorldV vb g s ta h' ck sf nt (pre ++ t.map (craK sf)) tl → V K g N0 6 Q h' 0 0 37 [some (va_rf (some s)), some (va_rf none), none, none, none, none] []) → V K g N0 6 Q h 0 0 13 [some (va_rf (some s)), some (va_rf (ptr t)), none, none, none, none] [] := by
  intro t
  induction t with
  | nil =>
    intro pre h w hp
    refine al_1 X d_S_crash_13 ?_
    refine V_ifnull (tgt := 37) X d_S_crash_14 (by decide) (fun c_14 => ?_) (fun b_14 c_14 => ?_)
    · exact hp h w
    · cases c_14
  | cons x t ih =>
    obtain ⟨b, n, vs⟩ := x
    intro pre h w hp
    dsimp only [ptr]
    have hm1 : (b, n, vs) ∈ pre ++ (b, n, vs) :: t := List.mem_append_right _ List.mem_cons_self
    have hb := keys_mid w.hk
    obtain ⟨-, -, hcv⟩ := keys_mem w.hk hm1
    have hs := w.hs
    refine al_1 X d_S_crash_13 ?_
    refine V_ifnull (tgt := 37) X d_S_crash_14 (by decide) (fun c_14 => ?_) (fun b_14 c_14 => ?_)
    · cases c_14
    · refine al_1 X d_S_crash_17 ?_
      refine al_1 X d_S_crash_18 ?_
      refine al_0 X d_S_crash_19 ?_
      refine gf_S_149 X (by assumption) d_S_crash_20 ?_
      refine cl_S_152 X (c_Key_versionAt _ g N0 h sf hb hcv) (by assumption) d_S_crash_23 (by refine ⟨?_, ?_⟩ <;> first | decide | (dsimp only; first | done | omega)) (by first | decide | (simp only [List.map, rf_cat, cat_i, cat_l, List.sum_cons, List.sum_nil]; first | done | decide | omega)) ⟨(by first | omega | decide | (dsimp only; first | done | omega)), (by first | omega | decide | (dsimp only; first | done | omega))⟩ (fun _ _ z => z.elim) ?_
      rintro r h1 ⟨rfl, rfl⟩
      obtain ⟨ow, ho⟩ := w.hw
      have w2 := w.setK hm1 hb (vs' := vdrop sf vs) (chain_drop _ hcv) ⟨ow, vowned_sub ho w.ho hm1 (fun v hv => (List.dropWhile_sublist _).subset hv)⟩ (vord_sub w hm1)
      rw [kset_mid w.ho] at w2
      have hb2 := keys_mid w2.hk
      refine pf_S_156 X (by assumption) d_S_crash_26 ?_
      refine al_1 X d_S_crash_29 ?_
      refine gf_S_72 X hb2 d_S_crash_30 ?_
      refine as_1 X d_S_crash_33 rfl (by first | exact okp_n | exact okp_i | exact okp_r) ?_
      refine V_goto (tgt := 13) X d_S_crash_34 (by decide) ?_
      have el : ∀ l : LK, pre ++ (b, n, vdrop sf vs) :: l = (pre ++ [(b, n, vdrop sf vs)]) ++ l := fun l => by simp
      refine ih (pre ++ [(b, n, vdrop sf vs)]) _ (by rw [← el]; exact w2) (fun h3 w3 => ?_)
      exact hp h3 (by rw [List.map_cons, show craK sf (b, n, vs) = (b, n, vdrop sf vs) from rfl, el]; exact w3)

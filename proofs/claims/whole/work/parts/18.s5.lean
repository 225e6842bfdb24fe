-- a key's place in the chain
def kins (q : Nat) (n : Int32) : LK → LK
  | [] => [(q, n, [])]
  | (a, m, vs) :: t => if m < n then (a, m, vs) :: kins q n t else (q, n, []) :: (a, m, vs) :: t
theorem kins_mem {q : Nat} {n : Int32} : ∀ {kl : LK} {x : Nat × Int32 × LV}, x ∈ kins q n kl ↔ x = (q, n, []) ∨ x ∈ kl
  | [], x => by simp [kins]
  | (a, m, vs) :: t, x => by
    rw [kins]
    split
    · rw [List.mem_cons, kins_mem, List.mem_cons]
      constructor
      · rintro (h | h | h)
        · exact Or.inr (Or.inl h)
        · exact Or.inl h
        · exact Or.inr (Or.inr h)
      · rintro (h | h | h)
        · exact Or.inr (Or.inl h)
        · exact Or.inl h
        · exact Or.inr (Or.inr h)
    · rw [List.mem_cons]
theorem kins_sorted {q : Nat} {n : Int32} : ∀ {kl : LK}, ksorted kl → (∀ x ∈ kl, x.2.1 ≠ n) → ksorted (kins q n kl)
  | [], _, _ => ⟨fun x hx => (nomatch hx), trivial⟩
  | (a, m, vs) :: t, hs, hn => by
    rw [kins]
    split
    case isTrue hm =>
      refine ⟨fun x hx => ?_, kins_sorted hs.2 (fun x hx => hn x (List.mem_cons_of_mem _ hx))⟩
      rcases kins_mem.mp hx with rfl | hx
      · exact hm
      · exact hs.1 x hx
    case isFalse hm =>
      have hlt : n < m := Int32.lt_of_le_of_ne (Int32.not_lt.mp hm) (fun e => hn _ List.mem_cons_self e.symm)
      refine ⟨fun x hx => ?_, hs⟩
      rcases List.mem_cons.mp hx with rfl | hx
      · exact hlt
      · exact Int32.lt_trans hlt (hs.1 x hx)
theorem kins_head {q : Nat} {n : Int32} {kl : LK} (hn : ∀ x ∈ kl, n < x.2.1) : kins q n kl = (q, n, []) :: kl := by
  cases kl with
  | nil => rfl
  | cons x t =>
    obtain ⟨a, m, vs⟩ := x
    rw [kins, if_neg]
    exact Int32.not_lt.mpr (Int32.le_of_lt (hn _ List.mem_cons_self))
/-- two keys of a chain lie at different places -/
theorem keys_inj {h : Mp} {kl : LK} (hk : keys h kl) {x y : Nat × Int32 × LV} (hx : x ∈ kl) (hy : y ∈ kl) (hne : x.2.1 ≠ y.2.1) : x.1 ≠ y.1 := by
  obtain ⟨a, n, vs⟩ := x
  obtain ⟨b, m, us⟩ := y
  obtain ⟨nx, h1, -⟩ := keys_mem hk hx
  obtain ⟨ny, h2, -⟩ := keys_mem hk hy
  intro e
  dsimp only at e
  subst e
  rw [h1] at h2
  simp only [Option.some.injEq, Sum.inr.injEq, Prod.mk.injEq, List.cons.injEq, Value.int.injEq] at h2
  exact hne h2.2.1
/-- a key's cell is written anew: the others stay -/
theorem keys_keep {h : Mp} {b : Nat} {e : va_E} (h4 : ∀ e0, h b = some e0 → kd e0 ≠ 4) : ∀ {l : LK}, keys h l → (∀ x ∈ l, x.1 ≠ b) → keys (mUp h b e) l
  | [], _, _ => trivial
  | (a, n, vs) :: t, hl, hb => ⟨by rw [mUp_n h e (hb _ List.mem_cons_self)]; exact hl.1, chain_up kd_ve h4 hl.2.1, keys_keep h4 hl.2.2 (fun x hx => hb x (List.mem_cons_of_mem _ hx))⟩
theorem ptr_kins {q : Nat} {n : Int32} {kl : LK} {x : Nat × Int32 × LV} (hx : x ∈ kl) (hs : ksorted kl) (hxn : x.2.1 < n) : ptr (kins q n kl) = ptr kl := by
  cases kl with
  | nil => cases hx
  | cons y t =>
    obtain ⟨a, m, vs⟩ := y
    have hm : m < n := by
      rcases List.mem_cons.mp hx with rfl | hx
      · exact hxn
      · exact Int32.lt_trans (hs.1 x hx) hxn
    rw [kins, if_pos hm]
    rfl
theorem keys_ins {h : Mp} {q : Nat} {n : Int32} {nx : Option Nat} {x : Nat × Int32 × LV} (hq : h q = none) (hxc : h x.1 = some (cKey (x.2.1, ptr x.2.2) nx)) (hxn : x.2.1 < n) : ∀ {kl : LK}, keys h kl → ksorted kl → x ∈ kl → (∀ y ∈ kl, y.2.1 ≤ n → y.2.1 ≤ x.2.1) → keys (mUp (mUp h q (cKey (n, none) nx)) x.1 (cKey (x.2.1, ptr x.2.2) (some q))) (kins q n kl)
  | [], _, _, hx, _ => by cases hx
  | (a, m, vs) :: t, hk, hs, hx, hmax => by
    have hqx : x.1 ≠ q := mUp_nn hq hxc
    have hk4 : ∀ e0, (mUp h q (cKey (n, none) nx)) x.1 = some e0 → kd e0 ≠ 4 := no_kd (by rw [mUp_n _ _ hqx]; exact hxc) (by intro z; cases z)
    rcases List.mem_cons.mp hx with e | hx2
    · subst e
      have hgt : ∀ y ∈ t, n < y.2.1 := fun y hy => Int32.not_le.mp (fun z => absurd (hmax y (List.mem_cons_of_mem _ hy) z) (Int32.not_le.mpr (hs.1 y hy)))
      have hnx : nx = ptr t := by
        have := hk.1
        rw [this] at hxc
        simp only [Option.some.injEq, Sum.inr.injEq, Prod.mk.injEq, List.cons.injEq] at hxc
        have h1 := hxc.2.2.1
        cases nx <;> cases hpt : ptr t <;> simp_all [va_rf]
      subst hnx
      rw [kins, if_pos hxn, kins_head hgt]
      refine ⟨mUp_s _ _ _, chain_up kd_ve hk4 (chain_up kd_ve (nn_kd hq) hk.2.1), ?_, trivial, ?_⟩
      · rw [mUp_n _ _ (Ne.symm hqx), mUp_s]; rfl
      · refine keys_keep hk4 (keys_up (nn_kd hq) (nn_kd hq) hk.2.2) (fun y hy => ?_)
        exact keys_inj hk (List.mem_cons_of_mem _ hy) List.mem_cons_self (Ne.symm (Int32.ne_of_lt (hs.1 y hy)))
    · have hmx : m < x.2.1 := hs.1 x hx2
      have hm : m < n := Int32.lt_trans hmx hxn
      rw [kins, if_pos hm]
      have hax : a ≠ x.1 := keys_inj hk (x := (a, m, vs)) List.mem_cons_self (List.mem_cons_of_mem _ hx2) (Int32.ne_of_lt hmx)
      refine ⟨?_, chain_up kd_ve hk4 (chain_up kd_ve (nn_kd hq) hk.2.1), keys_ins hq hxc hxn hk.2.2 hs.2 hx2 (fun y hy => hmax y (List.mem_cons_of_mem _ hy))⟩
      rw [mUp_n _ _ hax, mUp_n _ _ (mUp_nn hq hk.1), ptr_kins hx2 hs.2 hxn]
      exact hk.1
theorem rf_inj {a b : Option Nat} (e : va_rf a = va_rf b) : a = b := by cases a <;> cases b <;> simp_all [va_rf]
section WK
variable {vb : Int32} {g : GG} {s ta : Nat} {h : Mp} {ck sf nt : Int32} {kl : LK} {tl : List CT}
theorem vowned_ins {kl : LK} {q : Nat} {n : Int32} (hw : ∃ ow, vowned ow kl) : ∃ ow, vowned ow (kins q n kl) := by
  obtain ⟨ow, hw⟩ := hw
  refine ⟨ow, fun k hk v hv => ?_⟩
  rcases kins_mem.mp hk with rfl | hk
  · cases hv
  · exact hw k hk v hv
theorem vord_ins {kl : LK} {q : Nat} {n : Int32} (hv : ∀ k ∈ kl, vord vb k.2.2) : ∀ k ∈ kins q n kl, vord vb k.2.2 := fun k hk => by
  rcases kins_mem.mp hk with rfl | hk
  · trivial
  · exact hv k hk
/-- a new least key -/
theorem WorldV.insHead (w : WorldV vb g s ta h ck sf nt kl tl) {q : Nat} {n : Int32} (hq : h q = none) (hn : ∀ x ∈ kl, n < x.2.1) : WorldV vb g s ta (mUp (mUp h q (cKey (n, none) (ptr kl))) s (cS (some ta) (nI tl.length) ck sf nt (some q))) ck sf nt (kins q n kl) tl := by
  have w1 := w.fresh hq (cKey (n, none) (ptr kl))
  obtain ⟨f, ha, hf⟩ := w1.ha
  have hqs : q ≠ s := Ne.symm (mUp_nn hq w.hs)
  have hsrt := kins_sorted (q := q) w.ho (fun x hx => (Int32.ne_of_lt (hn x hx)).symm)
  refine ⟨by rw [mUp_s, kins_head hn]; rfl, ⟨f, by rw [mUp_n _ _ (mUp_ne w1.hs ha (by intro z; cases z))]; exact ha, hf⟩, ?_, hsrt, fun t ht => txOk_up (no_S w1.hs (by decide)) (no_S w1.hs (by decide)) (no_S w1.hs (by decide)) (txOk_ne (no_S w1.hs (by decide)) (w1.hu t ht)) (w1.hu t ht), w.hd, vowned_ins w.hw, vord_ins w.hv⟩
  rw [kins_head hn]
  refine ⟨by rw [mUp_n _ _ hqs, mUp_s]; rfl, trivial, keys_up (no_S w1.hs (by decide)) (no_S w1.hs (by decide)) w1.hk⟩
/-- a new key behind one that is there -/
theorem WorldV.insBehind (w : WorldV vb g s ta h ck sf nt kl tl) {q : Nat} {n : Int32} {nx : Option Nat} {x : Nat × Int32 × LV} (hq : h q = none) (hxc : h x.1 = some (cKey (x.2.1, ptr x.2.2) nx)) (hxn : x.2.1 < n) (hx : x ∈ kl) (hmax : ∀ y ∈ kl, y.2.1 ≤ n → y.2.1 ≤ x.2.1) : WorldV vb g s ta (mUp (mUp h q (cKey (n, none) nx)) x.1 (cKey (x.2.1, ptr x.2.2) (some q))) ck sf nt (kins q n kl) tl := by
  have w1 := w.fresh hq (cKey (n, none) nx)
  obtain ⟨f, ha, hf⟩ := w1.ha
  have hxc1 : (mUp h q (cKey (n, none) nx)) x.1 = some (cKey (x.2.1, ptr x.2.2) nx) := by rw [mUp_n _ _ (mUp_nn hq hxc)]; exact hxc
  have hc : ∀ c, 0 ≠ c → ∀ e0, (mUp h q (cKey (n, none) nx)) x.1 = some e0 → kd e0 ≠ c := fun c hc => no_kd hxc1 hc
  have hne : ∀ y ∈ kl, y.2.1 ≠ n := fun y hy e => absurd (hmax y hy (by rw [e]; exact Int32.le_refl _)) (by rw [e]; exact Int32.not_le.mpr hxn)
  refine ⟨?_, ⟨f, by rw [mUp_n _ _ (mUp_ne hxc1 ha (by intro z; cases z))]; exact ha, hf⟩, keys_ins hq hxc hxn w.hk w.ho hx hmax, kins_sorted w.ho hne, fun t ht => txOk_up (hc 1 (by decide)) (hc 2 (by decide)) (hc 5 (by decide)) (txOk_ne (hc 3 (by decide)) (w1.hu t ht)) (w1.hu t ht), w.hd, vowned_ins w.hw, vord_ins w.hv⟩
  rw [mUp_n _ _ (mUp_ne hxc1 w1.hs (by intro z; cases z)), ptr_kins hx w.ho hxn]
  exact w1.hs
end WK
-- placeKey
def placed (n : Int32) (kl kl' : LK) : Prop := (kfind n kl ≠ none ∧ kl' = kl) ∨ (kfind n kl = none ∧ ∃ q, kl' = kins q n kl)
theorem c_S_placeKey (l : Launch) (g : GG) (N0 : Nat → Prop) (h : Mp) {s ta : Nat} {ck sf nt : Int32} {kl : LK} {tl : List CT} (n : Int32) (w : World g s ta h ck sf nt kl tl) : Ct l y_S_placeKey b_S_placeKey 3 none 2 42 1 3 g N0 h [va_rf (some s), .int n] (pV (fun h' => ∃ kl', placed n kl kl' ∧ World g s ta h' ck sf nt kl' tl)) nox := by
  refine Ct_of "SnapshotStore" "placeKey" [some (va_rf (some s)), some (.int n), none] (by decide) rfl rfl (by simp [lg_sl, rf_cat, cat_i, cat_l]) (by simp [toL, lv_args, rf_cat, cat_i, cat_l]) (fun K hl X => ?_)
  refine al_0 X d_S_placeKey_0 ?_
  refine il_1 X d_S_placeKey_1 ?_
  refine cl_S_230 X (c_S_lastUpTo _ g N0 h n w.hs w.hk) w.hs d_S_placeKey_2 (by refine ⟨?_, ?_⟩ <;> first | decide | (dsimp only; first | done | omega)) (by first | decide | (simp only [List.map, rf_cat, cat_i, cat_l, List.sum_cons, List.sum_nil]; first | done | decide | omega)) ⟨(by first | omega | decide | (dsimp only; first | done | omega)), (by first | omega | decide | (dsimp only; first | done | omega))⟩ (fun _ _ z => z.elim) ?_
  rintro r h' ⟨rfl, rfl⟩
  have hs := w.hs
  rcases kl_named (n := n) w.ho with ⟨h1, h2, h3⟩ | ⟨⟨b, m, vs⟩, hx, h1, h2, h3, h4⟩
  · rw [h1]
    refine as_2 X d_S_placeKey_5 rfl (by first | exact okp_n | exact okp_i | exact okp_r) ?_
    refine al_2 X d_S_placeKey_6 ?_
    refine V_ifnonnull (tgt := 29) X d_S_placeKey_7 (by decide) (fun b_7 c_7 => ?_) (fun c_7 => ?_)
    · cases c_7
    · refine al_0 X d_S_placeKey_10 ?_
      refine nw_S_68 X (by first | omega | decide | (dsimp only; first | done | omega)) (by first | omega | decide | (dsimp only; first | done | omega)) d_S_placeKey_11 (fun q hq => ?_)
      have k1 : (mUp h' q (.inr (0, [.int 0, va_rf none, va_rf none]))) s = some (cS (some ta) (nI tl.length) ck sf nt (ptr kl)) := by rw [mUp_n _ _ (mUp_nn hq hs)]; exact hs
      refine V_dup X d_S_placeKey_14 (by first | rfl | exact rf_cat _) ?_
      refine il_1 X d_S_placeKey_15 ?_
      refine al_0 X d_S_placeKey_16 ?_
      refine gf_S_63 X (by assumption) d_S_placeKey_17 ?_
      refine cl_S_233 X (c_Key_init _ g N0 _ n (ptr kl) (mUp_s _ _ _)) d_S_placeKey_20 (by refine ⟨?_, ?_⟩ <;> first | decide | (dsimp only; first | done | omega)) (by first | decide | (simp only [List.map, rf_cat, cat_i, cat_l, List.sum_cons, List.sum_nil]; first | done | decide | omega)) ⟨(by first | omega | decide | (dsimp only; first | done | omega)), (by first | omega | decide | (dsimp only; first | done | omega))⟩ ?_
      rintro h2' rfl
      rw [mUp_uu]
      have k2 : (mUp h' q (cKey (n, none) (ptr kl))) s = some (cS (some ta) (nI tl.length) ck sf nt (ptr kl)) := by rw [mUp_n _ _ (mUp_nn hq hs)]; exact hs
      refine pf_S_63 X (by assumption) d_S_placeKey_23 ?_
      refine V_goto (tgt := 53) X d_S_placeKey_26 (by decide) ?_
      refine V_vret X rfl d_S_placeKey_53 (by first | omega | decide | (dsimp only; first | done | omega)) (by first | omega | decide | (dsimp only; first | done | omega)) ?_
      exact ⟨rfl, _, Or.inr ⟨h2, q, rfl⟩, w.insHead hq h3⟩
  · rw [h1]
    obtain ⟨nx, hb, -⟩ := keys_mem w.hk hx
    dsimp only at h2 h3 h4 ⊢
    refine as_2 X d_S_placeKey_5 rfl (by first | exact okp_n | exact okp_i | exact okp_r) ?_
    refine al_2 X d_S_placeKey_6 ?_
    refine V_ifnonnull (tgt := 29) X d_S_placeKey_7 (by decide) (fun b_7 c_7 => ?_) (fun c_7 => ?_)
    · refine al_2 X d_S_placeKey_29 ?_
      refine gf_S_67 X (by assumption) d_S_placeKey_30 ?_
      refine il_1 X d_S_placeKey_33 ?_
      refine V_icmp_eq (tgt := 53) X d_S_placeKey_34 (by decide) (fun c_34 => ?_) (fun c_34 => ?_)
      · rcases h4 with ⟨-, h4⟩ | ⟨e, -⟩
        · refine V_vret X rfl d_S_placeKey_53 (by first | omega | decide | (dsimp only; first | done | omega)) (by first | omega | decide | (dsimp only; first | done | omega)) ?_
          exact ⟨rfl, kl, Or.inl ⟨(by rw [h4]; intro z; cases z), rfl⟩, w⟩
        · exact absurd c_34 e
      · rcases h4 with ⟨e, -⟩ | ⟨-, h4⟩
        · exact absurd e c_34
        · refine al_2 X d_S_placeKey_37 ?_
          refine nw_S_68 X (by first | omega | decide | (dsimp only; first | done | omega)) (by first | omega | decide | (dsimp only; first | done | omega)) d_S_placeKey_38 (fun q hq => ?_)
          have k1 : (mUp h' q (.inr (0, [.int 0, va_rf none, va_rf none]))) b = some (cKey (m, ptr vs) nx) := by rw [mUp_n _ _ (mUp_nn hq hb)]; exact hb
          refine V_dup X d_S_placeKey_41 (by first | rfl | exact rf_cat _) ?_
          refine il_1 X d_S_placeKey_42 ?_
          refine al_2 X d_S_placeKey_43 ?_
          refine gf_S_72 X (by assumption) d_S_placeKey_44 ?_
          refine cl_S_233 X (c_Key_init _ g N0 _ n nx (mUp_s _ _ _)) d_S_placeKey_47 (by refine ⟨?_, ?_⟩ <;> first | decide | (dsimp only; first | done | omega)) (by first | decide | (simp only [List.map, rf_cat, cat_i, cat_l, List.sum_cons, List.sum_nil]; first | done | decide | omega)) ⟨(by first | omega | decide | (dsimp only; first | done | omega)), (by first | omega | decide | (dsimp only; first | done | omega))⟩ ?_
          rintro h2' rfl
          rw [mUp_uu]
          have k2 : (mUp h' q (cKey (n, none) nx)) b = some (cKey (m, ptr vs) nx) := by rw [mUp_n _ _ (mUp_nn hq hb)]; exact hb
          refine pf_S_72 X (by assumption) d_S_placeKey_50 ?_
          refine V_vret X rfl d_S_placeKey_53 (by first | omega | decide | (dsimp only; first | done | omega)) (by first | omega | decide | (dsimp only; first | done | omega)) ?_
          exact ⟨rfl, _, Or.inr ⟨h4, q, rfl⟩, w.insBehind (x := (b, m, vs)) hq hb (Int32.lt_of_le_of_ne h2 c_34) hx h3⟩
    · cases c_7
-- put
def putK (n : Int32) (ws : LW) : Int32 := if (wdrop n ws).isEmpty then wkeys ws + 1 else wkeys ws
def putT (n : Int32) (c : Int64) (q : Nat) : CT → CT
  | (a, lv, sn, se, sp, ha, ws, rs, ps) => (a, lv, sn, se, sp, ha, (q, n, c, putK n ws) :: ws, rs, ps)
def ctW : CT → LW
  | (_, _, _, _, _, _, ws, _, _) => ws
theorem c_S_put (l : Launch) (g : GG) (N0 : Nat → Prop) (h : Mp) {s ta : Nat} {ck sf nt : Int32} {kl : LK} {tl : List CT} {i : Nat} {t : CT} (n : Int32) (c : Int64) (hn : nt < 512) (w : World g s ta h ck sf nt kl tl) (ht : tl[i]? = some t) : Ct l y_S_put b_S_put 6 (some .int) 7 110 2 7 g N0 h [va_rf (some s), va_rf (some t.1), .int n, .long c] (pI (fun r h' => r = putK n (ctW t) ∧ ∃ kl' q, placed n kl kl' ∧ World g s ta h' ck sf (nt + 1) kl' (tl.set i (putT n c q t)))) nox := by
  refine Ct_of "SnapshotStore" "put" [some (va_rf (some s)), some (va_rf (some t.1)), some (.int n), some (.long c), none, none] (by decide) rfl rfl (by simp [lg_sl, rf_cat, cat_i, cat_l]) (by simp [toL, lv_args, rf_cat, cat_i, cat_l]) (fun K hl X => ?_)
  obtain ⟨a, lv, sn, se, sp, ha, ws, rs, ps⟩ := t
  dsimp only
  refine al_0 X d_S_put_0 ?_
  refine cl_S_206 X (c_S_countNote _ g N0 h hn w.hs) w.hs d_S_put_1 (by refine ⟨?_, ?_⟩ <;> first | decide | (dsimp only; first | done | omega)) (by first | decide | (simp only [List.map, rf_cat, cat_i, cat_l, List.sum_cons, List.sum_nil]; first | done | decide | omega)) ⟨(by first | omega | decide | (dsimp only; first | done | omega)), (by first | omega | decide | (dsimp only; first | done | omega))⟩ (fun _ _ z => z.elim) ?_
  rintro h' rfl
  have w1 := w.setS ck sf (nt + 1) w.hv
  generalize mUp h s (cS (some ta) (nI tl.length) ck sf (nt + 1) (ptr kl)) = h1 at w1 ⊢
  refine al_0 X d_S_put_4 ?_
  refine il_2 X d_S_put_5 ?_
  refine cl_S_218 X (c_S_placeKey _ g N0 h1 n w1) w1.hs d_S_put_6 (by refine ⟨?_, ?_⟩ <;> first | decide | (dsimp only; first | done | omega)) (by first | decide | (simp only [List.map, rf_cat, cat_i, cat_l, List.sum_cons, List.sum_nil]; first | done | decide | omega)) ⟨(by first | omega | decide | (dsimp only; first | done | omega)), (by first | omega | decide | (dsimp only; first | done | omega))⟩ (fun _ _ z => z.elim) ?_
  rintro h2 ⟨kl', hpl, w2⟩
  obtain ⟨t1, t2, t3, t4⟩ := w2.hu _ (List.mem_of_getElem? ht)
  refine al_1 X d_S_put_9 ?_
  refine cl_S_110 X (c_Tx_writtenKeys _ g N0 h2 t1 t2) (by assumption) d_S_put_10 (by refine ⟨?_, ?_⟩ <;> first | decide | (dsimp only; first | done | omega)) (by first | decide | (simp only [List.map, rf_cat, cat_i, cat_l, List.sum_cons, List.sum_nil]; first | done | decide | omega)) ⟨(by first | omega | decide | (dsimp only; first | done | omega)), (by first | omega | decide | (dsimp only; first | done | omega))⟩ (fun _ _ z => z.elim) ?_
  rintro r h3 ⟨rfl, rfl⟩
  refine is_5 X d_S_put_13 rfl (by first | exact okp_n | exact okp_i | exact okp_r) ?_
  refine al_1 X d_S_put_15 ?_
  refine il_2 X d_S_put_16 ?_
  refine cl_S_221 X (c_Tx_writeOf _ g N0 h3 n t1 t2) (by assumption) d_S_put_17 (by refine ⟨?_, ?_⟩ <;> first | decide | (dsimp only; first | done | omega)) (by first | decide | (simp only [List.map, rf_cat, cat_i, cat_l, List.sum_cons, List.sum_nil]; first | done | decide | omega)) ⟨(by first | omega | decide | (dsimp only; first | done | omega)), (by first | omega | decide | (dsimp only; first | done | omega))⟩ (fun _ _ z => z.elim) ?_
  rintro r h4 ⟨rfl, rfl⟩
  have rest : ∀ k : Int32, k = putK n ws → V K g N0 6 (RQ K g N0 (pI (fun r h' => r = putK n (ctW (a, lv, sn, se, sp, ha, ws, rs, ps)) ∧ ∃ kl' q, placed n kl kl' ∧ World g s ta h' ck sf (nt + 1) kl' (tl.set i (putT n c q (a, lv, sn, se, sp, ha, ws, rs, ps))))) nox 2 7) h4 1 3 26 [some (va_rf (some s)), some (va_rf (some a)), some (.int n), some (.long c), none, some (.int k)] [] := by
    intro k hk
    refine al_1 X d_S_put_26 ?_
    refine nw_S_225 X (by first | omega | decide | (dsimp only; first | done | omega)) (by first | omega | decide | (dsimp only; first | done | omega)) d_S_put_27 (fun q hq => ?_)
    have k1 : (mUp h4 q (.inr (5, [.int 0, .long 0, .int 0, va_rf none]))) a = some (cTx lv sn se sp ha (ptr ws) (ptr rs) (ptr ps)) := by rw [mUp_n _ _ (mUp_nn hq t1)]; exact t1
    refine V_dup X d_S_put_30 (by first | rfl | exact rf_cat _) ?_
    refine il_2 X d_S_put_31 ?_
    refine ll_3 X d_S_put_32 ?_
    refine il_5 X d_S_put_33 ?_
    refine al_1 X d_S_put_35 ?_
    refine gf_S_92 X (by assumption) d_S_put_36 ?_
    refine cl_S_227 X (c_Wr_init _ g N0 _ n c k (ptr ws) (mUp_s _ _ _)) d_S_put_39 (by refine ⟨?_, ?_⟩ <;> first | decide | (dsimp only; first | done | omega)) (by first | decide | (simp only [List.map, rf_cat, cat_i, cat_l, List.sum_cons, List.sum_nil]; first | done | decide | omega)) ⟨(by first | omega | decide | (dsimp only; first | done | omega)), (by first | omega | decide | (dsimp only; first | done | omega))⟩ ?_
    rintro h5 rfl
    rw [mUp_uu]
    have w3 := w2.fresh hq (cWr (n, c, k) (ptr ws))
    obtain ⟨u1, u2, u3, u4⟩ := w3.hu _ (List.mem_of_getElem? ht)
    refine pf_S_92 X (by assumption) d_S_put_42 ?_
    refine il_5 X d_S_put_45 ?_
    refine V_iret X rfl d_S_put_47 (by first | omega | decide | (dsimp only; first | done | omega)) (by first | omega | decide | (dsimp only; first | done | omega)) ?_
    refine ⟨_, rfl, hk, kl', q, hpl, ?_⟩
    rw [putT, ← hk]
    exact w3.setT (ws := (q, n, c, k) :: ws) ht ⟨mUp_s _ _ _, u2⟩ u3 u4
  cases hd : wdrop n ws with
  | nil =>
    refine V_ifnonnull (tgt := 26) X d_S_put_20 (by decide) (fun b_20 c_20 => ?_) (fun c_20 => ?_)
    · cases c_20
    · refine ic_5 X d_S_put_23 rfl rfl (by first | exact okp_n | exact okp_i | exact okp_r) ?_
      refine V.widen (c2 := 1) (s2 := 3) (by omega) (by omega) (rest _ ?_)
      simp [putK, hd]
  | cons x t =>
    refine V_ifnonnull (tgt := 26) X d_S_put_20 (by decide) (fun b_20 c_20 => ?_) (fun c_20 => ?_)
    · refine V.widen (c2 := 1) (s2 := 3) (by omega) (by omega) (rest _ ?_)
      simp [putK, hd]
    · cases c_20

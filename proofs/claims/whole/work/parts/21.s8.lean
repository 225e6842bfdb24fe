-- a key's versions written anew; commit
def kset (n : Int32) (vs' : LV) (kl : LK) : LK := kl.map (fun k => if k.2.1 = n then (k.1, k.2.1, vs') else k)
theorem kset_ptr (n : Int32) (vs' : LV) (kl : LK) : ptr (kset n vs' kl) = ptr kl := by
  cases kl with
  | nil => rfl
  | cons x t =>
    obtain ⟨a, m, vs⟩ := x
    simp only [kset, List.map_cons]
    split <;> rfl
theorem kset_mem {n : Int32} {vs' : LV} {kl : LK} {x : Nat × Int32 × LV} (hx : x ∈ kset n vs' kl) : ∃ y ∈ kl, x.1 = y.1 ∧ x.2.1 = y.2.1 ∧ ((y.2.1 = n ∧ x.2.2 = vs') ∨ (y.2.1 ≠ n ∧ x = y)) := by
  obtain ⟨y, hy, rfl⟩ := List.mem_map.mp hx
  refine ⟨y, hy, ?_⟩
  by_cases e : y.2.1 = n
  · simp [e]
  · simp [e]
theorem kset_sorted {n : Int32} {vs' : LV} : ∀ {kl : LK}, ksorted kl → ksorted (kset n vs' kl)
  | [], _ => trivial
  | (a, m, vs) :: t, hs => by
    have h1 : ∀ x ∈ kset n vs' t, m < x.2.1 := fun x hx => by
      obtain ⟨y, hy, -, e, -⟩ := kset_mem hx
      rw [e]; exact hs.1 y hy
    show ksorted ((if m = n then (a, m, vs') else (a, m, vs)) :: kset n vs' t)
    split
    · exact ⟨h1, kset_sorted hs.2⟩
    · exact ⟨h1, kset_sorted hs.2⟩
theorem kset_id {n : Int32} {vs' : LV} : ∀ {kl : LK}, (∀ x ∈ kl, x.2.1 ≠ n) → kset n vs' kl = kl
  | [], _ => rfl
  | (a, m, vs) :: t, hn => by
    show (if m = n then (a, m, vs') else (a, m, vs)) :: kset n vs' t = _
    rw [if_neg (hn _ List.mem_cons_self), kset_id (fun x hx => hn x (List.mem_cons_of_mem _ hx))]
theorem keys_set {h : Mp} {b : Nat} {n : Int32} {vs vs' : LV} {nx : Option Nat} (hb : h b = some (cKey (n, ptr vs) nx)) (hc : chain cVer h vs') : ∀ {kl : LK}, keys h kl → ksorted kl → (b, n, vs) ∈ kl → keys (mUp h b (cKey (n, ptr vs') nx)) (kset n vs' kl)
  | [], _, _, hx => by cases hx
  | (a, m, us) :: t, hk, hs, hx => by
    have h4 : ∀ e0, h b = some e0 → kd e0 ≠ 4 := no_kd hb (by intro z; cases z)
    show keys _ ((if m = n then (a, m, vs') else (a, m, us)) :: kset n vs' t)
    rcases List.mem_cons.mp hx with e | hx2
    · cases e
      have hnt : ∀ x ∈ t, x.2.1 ≠ n := fun x hx => (Int32.ne_of_lt (hs.1 x hx)).symm
      rw [if_pos rfl, kset_id hnt]
      have hnx : nx = ptr t := by
        have h1 := hk.1
        rw [hb] at h1
        simp only [Option.some.injEq, Sum.inr.injEq, Prod.mk.injEq, List.cons.injEq] at h1
        exact rf_inj h1.2.2.1
      subst hnx
      exact ⟨mUp_s _ _ _, chain_up kd_ve h4 hc, keys_keep h4 hk.2.2 (fun y hy => keys_inj hk (List.mem_cons_of_mem _ hy) List.mem_cons_self (hnt y hy))⟩
    · have hmn : m ≠ n := Int32.ne_of_lt (hs.1 _ hx2)
      have hab : a ≠ b := keys_inj hk (x := (a, m, us)) (y := (b, n, vs)) List.mem_cons_self hx hmn
      rw [if_neg hmn]
      exact ⟨by rw [mUp_n _ _ hab, kset_ptr]; exact hk.1, chain_up kd_ve h4 hk.2.1, keys_set hb hc hk.2.2 hs.2 hx2⟩
theorem WorldV.setK {vb : Int32} {g : GG} {s ta : Nat} {h : Mp} {ck sf nt : Int32} {kl : LK} {tl : List CT} (w : WorldV vb g s ta h ck sf nt kl tl) {b : Nat} {n : Int32} {vs vs' : LV} {nx : Option Nat} (hx : (b, n, vs) ∈ kl) (hb : h b = some (cKey (n, ptr vs) nx)) (hc : chain cVer h vs') (ho : ∃ ow, vowned ow (kset n vs' kl)) (hv : vord vb vs') : WorldV vb g s ta (mUp h b (cKey (n, ptr vs') nx)) ck sf nt (kset n vs' kl) tl := by
  obtain ⟨f, ha, hf⟩ := w.ha
  have hn : ∀ c, 0 ≠ c → ∀ e0, h b = some e0 → kd e0 ≠ c := fun c hc => no_kd hb hc
  refine ⟨by rw [mUp_n _ _ (mUp_ne hb w.hs (by intro z; cases z)), kset_ptr]; exact w.hs, ⟨f, by rw [mUp_n _ _ (mUp_ne hb ha (by intro z; cases z))]; exact ha, hf⟩, keys_set hb hc w.hk w.ho hx, kset_sorted w.ho, fun t ht => txOk_up (hn 1 (by decide)) (hn 2 (by decide)) (hn 5 (by decide)) (txOk_ne (hn 3 (by decide)) (w.hu t ht)) (w.hu t ht), w.hd, ho, fun k hk => ?_⟩
  obtain ⟨y, hy, -, -, ⟨-, e⟩ | ⟨-, e⟩⟩ := kset_mem hk
  · rw [e]; exact hv
  · rw [e]; exact w.hv y hy
theorem chain_mem {α : Type} {cell : α → Option Nat → va_E} {h : Mp} : ∀ {l : List (Nat × α)}, chain cell h l → ∀ {x : Nat × α}, x ∈ l → ∃ e, h x.1 = some e
  | [], _, _, hx => by cases hx
  | (a, y) :: t, hc, x, hx => by
    rcases List.mem_cons.mp hx with rfl | hx
    · exact ⟨_, hc.1⟩
    · exact chain_mem hc.2 hx
theorem vowned_new {h : Mp} {kl : LK} (hk : keys h kl) (hs : ksorted kl) {q b : Nat} {n : Int32} {vs : LV} (hq : h q = none) (hx : (b, n, vs) ∈ kl) {c : Int32} {ct : Int64} (ho : ∃ ow, vowned ow kl) : ∃ ow, vowned ow (kset n ((q, c, ct) :: vs) kl) := by
  obtain ⟨ow, ho⟩ := ho
  have old : ∀ y ∈ kl, ∀ v ∈ y.2.2, va_up ow q b v.1 = y.1 := by
    intro y hy v hv
    obtain ⟨a, m, us⟩ := y
    obtain ⟨-, -, hcu⟩ := keys_mem hk hy
    obtain ⟨e, he⟩ := chain_mem hcu hv
    rw [va_up_ne _ _ (mUp_nn hq he)]
    exact ho _ hy v hv
  refine ⟨va_up ow q b, fun k hkm v hv => ?_⟩
  obtain ⟨y, hy, e1, e2, ⟨e3, e4⟩ | ⟨-, e4⟩⟩ := kset_mem hkm
  · have : y = (b, n, vs) := ks_uniq hs hy hx e3
    subst this
    rw [e4] at hv
    rw [e1]
    rcases List.mem_cons.mp hv with rfl | hv
    · exact va_up_self _ _ _
    · exact old _ hx v hv
  · rw [e4] at hv ⊢
    exact old y hy v hv
/-- one write's version, if the key has none of this commit yet -/
def stepV (c n : Int32) (ct : Int64) (kl kl' : LK) : Prop := (kfind n kl = none ∧ kl' = kl) ∨ ∃ b vs, kfind n kl = some (b, n, vs) ∧ ((∃ v t, vs = v :: t ∧ v.2.1 = c ∧ kl' = kl) ∨ ((∀ v t, vs = v :: t → v.2.1 ≠ c) ∧ ∃ q, kl' = kset n ((q, c, ct) :: vs) kl))
def addRel (c : Int32) : LW → LK → LK → Prop
  | [], kl, kl' => kl' = kl
  | (_, n, ct, _) :: t, kl, kl' => ∃ k1, stepV c n ct kl k1 ∧ addRel c t k1 kl'
theorem kfind_name {n m : Int32} {kl : LK} {b : Nat} {vs : LV} (hf : kfind n kl = some (b, m, vs)) : m = n := by
  have := List.find?_some hf
  simpa using this
theorem w_S_addVersions {K : Cx} {g : GG} {N0 : Nat → Prop} {post : Option Value → Mp → Prop} {xp : String → Mp → Prop} {mc ms : Nat} (X : Fx K g N0 b_S_addVersions 4 "SnapshotStore" { frames := 2, cells := mc, slots := ms, locals := 45 } none "addVersions" []) {s ta a : Nat} {c sf nt : Int32} {tl : List CT} : ∀ (ws : LW) (kl : LK) (h : Mp) (c0 s0 : Nat) (z : Option Value), chain cWr h ws → World g s ta h c sf nt kl tl → c0 + ws.length ≤ mc → s0 + 3 * ws.length ≤ ms → (∀ h' kl', addRel c ws kl kl' → World g s ta h' c sf nt kl' tl → post none h') → V K g N0 4 (RQ K g N0 post xp mc ms)  h c0 s0 5 [some (va_rf (some s)), some (va_rf (some a)), some (va_rf (ptr ws)), z] [] := by
  intro ws
  induction ws with
  | nil =>
    intro kl h c0 s0 z hw w hc hs hp
    refine al_2 X d_S_addVersions_5 ?_
    refine V_ifnull (tgt := 74) X d_S_addVersions_6 (by decide) (fun c_6 => ?_) (fun b_6 c_6 => ?_)
    · refine V_vret X rfl d_S_addVersions_74 (by first | omega | decide | (dsimp only; first | done | omega)) (by first | omega | decide | (dsimp only; first | done | omega)) ?_
      exact hp h kl rfl w
    · cases c_6
  | cons x t ih =>
    obtain ⟨b, n, ct, k⟩ := x
    intro kl h c0 s0 z hw w hc hs hp
    have hw0 := hw
    obtain ⟨hw1, hw2⟩ := hw
    have hsS := w.hs
    rw [List.length_cons] at hc hs
    dsimp only [ptr]
    have skip : ∀ (h' : Mp) (k1 : LK) (c1 s1 : Nat) (q : Option Nat), chain cWr h' ((b, n, ct, k) :: t) → stepV c n ct kl k1 → World g s ta h' c sf nt k1 tl → c1 + t.length ≤ mc → s1 + 3 * t.length ≤ ms → V K g N0 4 (RQ K g N0 post xp mc ms) h' c1 s1 66 [some (va_rf (some s)), some (va_rf (some a)), some (va_rf (some b)), some (va_rf q)] [] := by
      intro h' k1 c1 s1 q hcw hst w' hc1 hs1
      obtain ⟨hcw1, hcw2⟩ := hcw
      refine al_2 X d_S_addVersions_66 ?_
      refine gf_S_244 X (by assumption) d_S_addVersions_67 ?_
      refine as_2 X d_S_addVersions_70 rfl (by first | exact okp_n | exact okp_i | exact okp_r) ?_
      refine V_goto (tgt := 5) X d_S_addVersions_71 (by decide) ?_
      exact ih k1 h' c1 s1 _ hcw2 w' hc1 hs1 (fun h2 k2 hr w2 => hp h2 k2 ⟨k1, hst, hr⟩ w2)
    refine al_2 X d_S_addVersions_5 ?_
    refine V_ifnull (tgt := 74) X d_S_addVersions_6 (by decide) (fun c_6 => ?_) (fun b_6 c_6 => ?_)
    · cases c_6
    · refine al_0 X d_S_addVersions_9 ?_
      refine al_2 X d_S_addVersions_10 ?_
      refine gf_S_240 X (by assumption) d_S_addVersions_11 ?_
      refine cl_S_45 X (c_S_keyNamed _ g N0 h n w.hs w.hk w.ho) (by assumption) d_S_addVersions_14 (by refine ⟨?_, ?_⟩ <;> first | decide | (dsimp only; first | done | omega)) (by first | decide | (simp only [List.map, rf_cat, cat_i, cat_l, List.sum_cons, List.sum_nil]; first | done | decide | omega)) ⟨(by first | omega | decide | (dsimp only; first | done | omega)), (by first | omega | decide | (dsimp only; first | done | omega))⟩ (fun _ _ z => z.elim) ?_
      rintro r h' ⟨rfl, rfl⟩
      cases hf : kfind n kl with
      | none =>
        refine as_3 X d_S_addVersions_17 rfl (by first | exact okp_n | exact okp_i | exact okp_r) ?_
        refine al_3 X d_S_addVersions_18 ?_
        refine V_ifnull (tgt := 66) X d_S_addVersions_19 (by decide) (fun c_19 => ?_) (fun b_19 c_19 => ?_)
        · exact skip h' kl _ _ _ hw0 (Or.inl ⟨hf, rfl⟩) w (by omega) (by omega)
        · cases c_19
      | some x =>
        obtain ⟨b2, m, vs⟩ := x
        have hmn := kfind_name hf
        subst hmn
        have hx := List.mem_of_find?_eq_some hf
        obtain ⟨nx, hb, hcv⟩ := keys_mem w.hk hx
        dsimp only [Option.map_some]
        have make : (∀ v t, vs = v :: t → v.2.1 ≠ c) → V K g N0 4 (RQ K g N0 post xp mc ms) h' (c0 + 0) (s0 + 0) 43 [some (va_rf (some s)), some (va_rf (some a)), some (va_rf (some b)), some (va_rf (some b2))] [] := by
          intro hne
          refine al_3 X d_S_addVersions_43 ?_
          refine nw_S_242 X (by first | omega | decide | (dsimp only; first | done | omega)) (by first | omega | decide | (dsimp only; first | done | omega)) d_S_addVersions_44 (fun q hq => ?_)
          have e1 : (mUp h' q (.inr (4, [.int 0, .long 0, va_rf none]))) s = some (cS (some ta) (nI tl.length) c sf nt (ptr kl)) := by rw [mUp_n _ _ (mUp_nn hq hsS)]; exact hsS
          have e2 : (mUp h' q (.inr (4, [.int 0, .long 0, va_rf none]))) b = some (cWr (m, ct, k) (ptr t)) := by rw [mUp_n _ _ (mUp_nn hq hw1)]; exact hw1
          have e3 : (mUp h' q (.inr (4, [.int 0, .long 0, va_rf none]))) b2 = some (cKey (m, ptr vs) nx) := by rw [mUp_n _ _ (mUp_nn hq hb)]; exact hb
          refine V_dup X d_S_addVersions_47 (by first | rfl | exact rf_cat _) ?_
          refine al_0 X d_S_addVersions_48 ?_
          refine gf_S_31 X (by assumption) d_S_addVersions_49 ?_
          refine al_2 X d_S_addVersions_52 ?_
          refine gf_S_236 X (by assumption) d_S_addVersions_53 ?_
          refine al_3 X d_S_addVersions_56 ?_
          refine gf_S_156 X (by assumption) d_S_addVersions_57 ?_
          refine cl_S_254 X (c_Ver_init _ g N0 _ c ct (ptr vs) (mUp_s _ _ _)) d_S_addVersions_60 (by refine ⟨?_, ?_⟩ <;> first | decide | (dsimp only; first | done | omega)) (by first | decide | (simp only [List.map, rf_cat, cat_i, cat_l, List.sum_cons, List.sum_nil]; first | done | decide | omega)) ⟨(by first | omega | decide | (dsimp only; first | done | omega)), (by first | omega | decide | (dsimp only; first | done | omega))⟩ ?_
          rintro h2 rfl
          rw [mUp_uu]
          have e4 : (mUp h' q (cVer (c, ct) (ptr vs))) b2 = some (cKey (m, ptr vs) nx) := by rw [mUp_n _ _ (mUp_nn hq hb)]; exact hb
          have w1 := w.fresh hq (cVer (c, ct) (ptr vs))
          have hv1 : vord c ((q, c, ct) :: vs) := by
            have hv := w.hv _ hx
            refine ⟨Int32.le_refl _, fun y hy => ?_, hv⟩
            cases vs with
            | nil => cases hy
            | cons v vt =>
              cases hy
              exact Int32.lt_of_le_of_ne hv.1 (hne _ _ rfl)
          have w2 := w1.setK hx e4 (vs' := (q, c, ct) :: vs) ⟨mUp_s _ _ _, chain_up kd_ve (nn_kd hq) hcv⟩ (vowned_new w.hk w.ho hq hx w.hw) hv1
          have hcw : chain cWr (mUp (mUp h' q (cVer (c, ct) (ptr vs))) b2 (cKey (m, some q) nx)) ((b, m, ct, k) :: t) := chain_up kd_wr (no_kd e4 (by intro z; cases z)) (chain_up kd_wr (nn_kd hq) hw0)
          refine pf_S_156 X (by assumption) d_S_addVersions_63 ?_
          exact skip _ _ _ _ _ hcw (Or.inr ⟨b2, vs, hf, Or.inr ⟨hne, q, rfl⟩⟩) w2 (by omega) (by omega)
        refine as_3 X d_S_addVersions_17 rfl (by first | exact okp_n | exact okp_i | exact okp_r) ?_
        refine al_3 X d_S_addVersions_18 ?_
        refine V_ifnull (tgt := 66) X d_S_addVersions_19 (by decide) (fun c_19 => ?_) (fun b_19 c_19 => ?_)
        · cases c_19
        · refine al_3 X d_S_addVersions_22 ?_
          refine gf_S_156 X (by assumption) d_S_addVersions_23 ?_
          cases vs with
          | nil =>
            refine V_ifnull (tgt := 43) X d_S_addVersions_26 (by decide) (fun c_26 => ?_) (fun b_26 c_26 => ?_)
            · exact make (fun v t e => by cases e)
            · cases c_26
          | cons y vt =>
            obtain ⟨b3, s3, c3⟩ := y
            have hcv1 := hcv.1
            dsimp only [ptr] at hb ⊢
            refine V_ifnull (tgt := 43) X d_S_addVersions_26 (by decide) (fun c_26 => ?_) (fun b_26 c_26 => ?_)
            · cases c_26
            · refine al_3 X d_S_addVersions_29 ?_
              refine gf_S_156 X (by assumption) d_S_addVersions_30 ?_
              refine gf_S_241 X (by assumption) d_S_addVersions_33 ?_
              refine al_0 X d_S_addVersions_36 ?_
              refine gf_S_31 X (by assumption) d_S_addVersions_37 ?_
              refine V_icmp_eq (tgt := 66) X d_S_addVersions_40 (by decide) (fun c_40 => ?_) (fun c_40 => ?_)
              · exact skip h' kl _ _ _ hw0 (Or.inr ⟨b2, _, hf, Or.inl ⟨_, _, rfl, c_40, rfl⟩⟩) w (by omega) (by omega)
              · exact make (fun v t e => by cases e; exact c_40)
theorem c_S_addVersions (l : Launch) (g : GG) (N0 : Nat → Prop) (h : Mp) {s ta a : Nat} {ck sf nt : Int32} {kl : LK} {tl : List CT} {lv sn se sp ha : Int32} {ws : LW} {rg pl : Option Nat} (M : Nat) (hM : ws.length ≤ M) (ht : h a = some (cTx lv sn se sp ha (ptr ws) rg pl)) (hw : chain cWr h ws) (w : World g s ta h ck sf nt kl tl) : Ct l y_S_addVersions b_S_addVersions 4 none 2 45 (M) (3 * M) g N0 h [va_rf (some s), va_rf (some a)] (pV (fun h' => ∃ kl', addRel ck ws kl kl' ∧ World g s ta h' ck sf nt kl' tl)) nox := by
  refine Ct_of "SnapshotStore" "addVersions" [some (va_rf (some s)), some (va_rf (some a)), none, none] (by decide) rfl rfl (by simp [lg_sl, rf_cat, cat_i, cat_l]) (by simp [toL, lv_args, rf_cat, cat_i, cat_l]) (fun K hl X => ?_)
  refine al_1 X d_S_addVersions_0 ?_
  refine gf_S_92 X (by assumption) d_S_addVersions_1 ?_
  refine as_2 X d_S_addVersions_4 rfl (by first | exact okp_n | exact okp_i | exact okp_r) ?_
  exact w_S_addVersions X ws kl h 0 0 _ hw w (by omega) (by omega) (fun h' kl' hr w' => ⟨rfl, kl', hr, w'⟩)
-- commit
def ctL : CT → Int32
  | (_, lv, _, _, _, _, _, _, _) => lv
def ctN : CT → Int32
  | (_, _, sn, _, _, _, _, _, _) => sn
def ctR : CT → LR
  | (_, _, _, _, _, _, _, rs, _) => rs
def conf (kl : LK) (t : CT) : Bool := (ctW t).any (pCon kl (ctN t))
def aft (tl : List CT) (own : Bool) (t : CT) : Bool := tl.any (pAft (ctN t) (ctR t) own)
def bef (tl : List CT) (t : CT) : Bool := tl.any (pBef t.1 (ctN t) (ctW t))
def aftS (tl : List CT) (t : CT) : Bool := decide (ctL t = 1) && aft tl false t
def unsf (tl : List CT) (t : CT) : Bool := aftS tl t && (aft tl true t || bef tl t)
def comT (ck : Int32) (ha : Bool) : CT → CT
  | (a, lv, sn, _, _, _, ws, rs, _) => (a, lv, sn, 1, ck, b01 ha, ws, rs, [])
theorem vord_up {c d : Int32} (h : c ≤ d) : ∀ {vs : LV}, vord c vs → vord d vs
  | [], _ => trivial
  | (_, s, _) :: t, hv => ⟨Int32.le_trans hv.1 h, hv.2.1, vord_up h hv.2.2⟩
def comPost (g : GG) (s ta : Nat) (ck sf nt : Int32) (kl : LK) (tl : List CT) (n r : Int32) (h' : Mp) : Prop := ∃ t i, n = nI i ∧ tl[i]? = some t ∧ ctS t = 0 ∧
  ((conf kl t = true ∧ r = -1 ∧ World g s ta h' ck sf nt kl (tl.set i (endT 2 t))) ∨ (conf kl t = false ∧ unsf tl t = true ∧ r = -2 ∧ World g s ta h' ck sf nt kl (tl.set i (endT 2 t))) ∨
   (conf kl t = false ∧ unsf tl t = false ∧ r = ck + 1 ∧ ∃ kl', addRel (ck + 1) (ctW t) kl kl' ∧ World g s ta h' (ck + 1) sf nt kl' (tl.set i (comT (ck + 1) (aftS tl t) t))))
theorem c_S_commit (l : Launch) (g : GG) (N0 : Nat → Prop) (h : Mp) {s ta : Nat} {ck sf nt : Int32} {kl : LK} {tl : List CT} (n : Int32) (M : Nat) (hM : ∀ t ∈ tl, (ctW t).length ≤ M) (hck : ck < ck + 1) (w : World g s ta h ck sf nt kl tl) : Ct l y_S_commit b_S_commit 4 (some .int) 8 134 (2 + M) (12 + 3 * M) g N0 h [va_rf (some s), .int n] (pI (fun r h' => comPost g s ta ck sf nt kl tl n r h')) (oXp tl n h) := by
  refine Ct_of "SnapshotStore" "commit" [some (va_rf (some s)), some (.int n), none, none] (by decide) rfl rfl (by simp [lg_sl, rf_cat, cat_i, cat_l]) (by simp [toL, lv_args, rf_cat, cat_i, cat_l]) (fun K hl X => ?_)
  refine al_0 X d_S_commit_0 ?_
  refine il_1 X d_S_commit_1 ?_
  refine cl_S_37 X (c_S_openOne _ g N0 h n w) w.hs d_S_commit_2 (by refine ⟨?_, ?_⟩ <;> first | decide | (dsimp only; first | done | omega)) (by first | decide | (simp only [List.map, rf_cat, cat_i, cat_l, List.sum_cons, List.sum_nil]; first | done | decide | omega)) ⟨(by first | omega | decide | (dsimp only; first | done | omega)), (by first | omega | decide | (dsimp only; first | done | omega))⟩ (fun E h' hx => VX_out X rfl (by omega) (by omega) hx) ?_
  rintro r h' ⟨⟨t, ht, hse, rfl⟩, rfl⟩
  obtain ⟨i, hni, -, hti⟩ := txAt_s ht
  have hu := w.hu t (List.mem_of_getElem? hti)
  have hMt := hM t (List.mem_of_getElem? hti)
  obtain ⟨f, hq, hf⟩ := w.ha
  have hsS := w.hs
  obtain ⟨a, lv, sn, se, sp, ha, ws, rs, ps⟩ := t
  obtain ⟨u1, u2, u3, u4⟩ := hu
  have ge : ∀ r : Int32, (comPost g s ta ck sf nt kl tl n r (mUp h' a (cTx lv sn 2 sp ha (ptr ws) (ptr rs) none))) → pI (fun r h' => comPost g s ta ck sf nt kl tl n r h') (some (.int r)) (mUp h' a (cTx lv sn 2 sp ha (ptr ws) (ptr rs) none)) := fun r hr => ⟨r, rfl, hr⟩
  refine as_2 X d_S_commit_5 rfl (by first | exact okp_n | exact okp_i | exact okp_r) ?_
  refine al_0 X d_S_commit_6 ?_
  refine al_2 X d_S_commit_7 ?_
  refine cl_S_113 X (c_S_hasConflict _ g N0 h' w.hs w.hk w.ho u1 u2) (by assumption) d_S_commit_8 (by refine ⟨?_, ?_⟩ <;> first | decide | (dsimp only; first | done | omega)) (by first | decide | (simp only [List.map, rf_cat, cat_i, cat_l, List.sum_cons, List.sum_nil]; first | done | decide | omega)) ⟨(by first | omega | decide | (dsimp only; first | done | omega)), (by first | omega | decide | (dsimp only; first | done | omega))⟩ (fun _ _ z => z.elim) ?_
  rintro r h2 ⟨rfl, rfl⟩
  refine V_if_eq (tgt := 21) X d_S_commit_11 (by decide) (fun c_11 => ?_) (fun c_11 => ?_)
  · have ec : conf kl (a, lv, sn, se, sp, ha, ws, rs, ps) = false := b01_f c_11
    have good : unsf tl (a, lv, sn, se, sp, ha, ws, rs, ps) = false → ∀ c0 s0, c0 ≤ 2 → s0 ≤ 12 → V K g N0 4 (RQ K g N0 (pI (fun r h' => comPost g s ta ck sf nt kl tl n r h')) (oXp tl n h2) (2 + M) (12 + 3 * M)) h2 c0 s0 73 [some (va_rf (some s)), some (.int n), some (va_rf (some a)), some (.int (b01 (aftS tl (a, lv, sn, se, sp, ha, ws, rs, ps))))] [] := by
      intro eu c0 s0 hc0 hs0
      refine al_0 X d_S_commit_73 ?_
      refine V_dup X d_S_commit_74 (by first | rfl | exact rf_cat _) ?_
      refine gf_S_31 X (by assumption) d_S_commit_75 ?_
      refine V_iconst (v := 1) X d_S_commit_78 (by decide) ?_
      refine V_iadd X d_S_commit_79 ?_
      refine pf_S_31 X (by assumption) d_S_commit_80 ?_
      have w1 := w.setS (ck + 1) sf nt (fun k hk => vord_up (Int32.le_of_lt hck) (w.hv k hk))
      obtain ⟨v1, v2, v3, v4⟩ := w1.hu _ (List.mem_of_getElem? hti)
      refine al_0 X d_S_commit_83 ?_
      refine al_2 X d_S_commit_84 ?_
      refine cl_S_131 X (c_S_addVersions _ g N0 _ M hMt v1 v2 w1) w1.hs d_S_commit_85 (by refine ⟨?_, ?_⟩ <;> first | decide | (dsimp only; first | done | omega)) (by first | decide | (simp only [List.map, rf_cat, cat_i, cat_l, List.sum_cons, List.sum_nil]; first | done | decide | omega)) ⟨(by first | omega | decide | (dsimp only; first | done | omega)), (by first | omega | decide | (dsimp only; first | done | omega))⟩ (fun _ _ z => z.elim) ?_
      rintro h3 ⟨kl', hr, w2⟩
      obtain ⟨x1, x2, x3, x4⟩ := w2.hu _ (List.mem_of_getElem? hti)
      have hs2 := w2.hs
      refine al_2 X d_S_commit_88 ?_
      refine al_0 X d_S_commit_89 ?_
      refine gf_S_31 X (by assumption) d_S_commit_90 ?_
      refine pf_S_135 X (by assumption) d_S_commit_93 ?_
      refine al_2 X d_S_commit_96 ?_
      refine il_3 X d_S_commit_97 ?_
      have x5 : (mUp h3 a (cTx lv sn se (ck + 1) ha (ptr ws) (ptr rs) (ptr ps))) a = some (cTx lv sn se (ck + 1) ha (ptr ws) (ptr rs) (ptr ps)) := mUp_s _ _ _
      refine pf_S_138 X (b01_or _) x5 d_S_commit_98 ?_
      rw [mUp_uu]
      refine al_2 X d_S_commit_101 ?_
      refine V_iconst (v := 1) X d_S_commit_102 (by decide) ?_
      refine cl_S_117 X (c_Tx_end _ g N0 _ 1 (mUp_s _ _ _)) (mUp_s _ _ _) d_S_commit_103 (by refine ⟨?_, ?_⟩ <;> first | decide | (dsimp only; first | done | omega)) (by first | decide | (simp only [List.map, rf_cat, cat_i, cat_l, List.sum_cons, List.sum_nil]; first | done | decide | omega)) ⟨(by first | omega | decide | (dsimp only; first | done | omega)), (by first | omega | decide | (dsimp only; first | done | omega))⟩ (fun _ _ z => z.elim) ?_
      rintro h4 rfl
      rw [mUp_uu]
      have w3 := w2.setT (lv := lv) (sn := sn) (se := 1) (sp := ck + 1) (ha := b01 (aftS tl (a, lv, sn, se, sp, ha, ws, rs, ps))) (ps := []) hti x2 x3 trivial
      have hs3 := w3.hs
      refine al_0 X d_S_commit_106 ?_
      refine gf_S_31 X hs3 d_S_commit_107 ?_
      refine V_iret X rfl d_S_commit_110 (by first | omega | decide | (dsimp only; first | done | omega)) (by first | omega | decide | (dsimp only; first | done | omega)) ?_
      exact ⟨_, rfl, _, i, hni, hti, hse, Or.inr (Or.inr ⟨ec, eu, rfl, kl', hr, w3⟩)⟩
    have bad : unsf tl (a, lv, sn, se, sp, ha, ws, rs, ps) = true → ∀ c0 s0, c0 ≤ 2 → s0 ≤ 12 → V K g N0 4 (RQ K g N0 (pI (fun r h' => comPost g s ta ck sf nt kl tl n r h')) (oXp tl n h2) (2 + M) (12 + 3 * M)) h2 c0 s0 65 [some (va_rf (some s)), some (.int n), some (va_rf (some a)), some (.int (b01 (aftS tl (a, lv, sn, se, sp, ha, ws, rs, ps))))] [] := by
      intro eu c0 s0 hc0 hs0
      refine al_2 X d_S_commit_65 ?_
      refine V_iconst (v := 2) X d_S_commit_66 (by decide) ?_
      refine cl_S_117 X (c_Tx_end _ g N0 h2 2 u1) (by assumption) d_S_commit_67 (by refine ⟨?_, ?_⟩ <;> first | decide | (dsimp only; first | done | omega)) (by first | decide | (simp only [List.map, rf_cat, cat_i, cat_l, List.sum_cons, List.sum_nil]; first | done | decide | omega)) ⟨(by first | omega | decide | (dsimp only; first | done | omega)), (by first | omega | decide | (dsimp only; first | done | omega))⟩ (fun _ _ z => z.elim) ?_
      rintro h3 rfl
      refine V_bipush (v := (-2)) X d_S_commit_70 (by decide) ?_
      refine V_iret X rfl d_S_commit_72 (by first | omega | decide | (dsimp only; first | done | omega)) (by first | omega | decide | (dsimp only; first | done | omega)) ?_
      exact ge _ ⟨_, i, hni, hti, hse, Or.inr (Or.inl ⟨ec, eu, rfl, w.endT hti 2⟩)⟩
    have mid : ∀ c0 s0, c0 ≤ 2 → s0 ≤ 12 → V K g N0 4 (RQ K g N0 (pI (fun r h' => comPost g s ta ck sf nt kl tl n r h')) (oXp tl n h2) (2 + M) (12 + 3 * M)) h2 c0 s0 44 [some (va_rf (some s)), some (.int n), some (va_rf (some a)), some (.int (b01 (aftS tl (a, lv, sn, se, sp, ha, ws, rs, ps))))] [] := by
      intro c0 s0 hc0 hs0
      refine il_3 X d_S_commit_44 ?_
      refine V_if_eq (tgt := 73) X d_S_commit_45 (by decide) (fun c_45 => ?_) (fun c_45 => ?_)
      · exact good (by rw [unsf, b01_f c_45, Bool.false_and]) _ _ hc0 hs0
      · have e1 := b01_t c_45
        refine al_0 X d_S_commit_48 ?_
        refine al_2 X d_S_commit_49 ?_
        refine V_iconst (v := 1) X d_S_commit_50 (by decide) ?_
        refine cl_S_124 X (c_S_hasAfter _ g N0 h2 true w.hs u1 u3 hq hf w.hu) (by assumption) d_S_commit_51 (by refine ⟨?_, ?_⟩ <;> first | decide | (dsimp only; first | done | omega)) (by first | decide | (simp only [List.map, rf_cat, cat_i, cat_l, List.sum_cons, List.sum_nil]; first | done | decide | omega)) ⟨(by first | omega | decide | (dsimp only; first | done | omega)), (by first | omega | decide | (dsimp only; first | done | omega))⟩ (fun _ _ z => z.elim) ?_
        rintro r h3 ⟨rfl, rfl⟩
        refine V_if_ne (tgt := 65) X d_S_commit_54 (by decide) (fun c_54 => ?_) (fun c_54 => ?_)
        · have e2 := b01_t c_54
          exact bad (by rw [unsf, e1, Bool.true_and, Bool.or_eq_true]; exact Or.inl e2) _ _ (by omega) (by omega)
        · have e2 := b01_f c_54
          refine al_0 X d_S_commit_57 ?_
          refine al_2 X d_S_commit_58 ?_
          refine cl_S_128 X (c_S_hasBefore _ g N0 h3 w.hs u1 u2 hq hf w.hu) (by assumption) d_S_commit_59 (by refine ⟨?_, ?_⟩ <;> first | decide | (dsimp only; first | done | omega)) (by first | decide | (simp only [List.map, rf_cat, cat_i, cat_l, List.sum_cons, List.sum_nil]; first | done | decide | omega)) ⟨(by first | omega | decide | (dsimp only; first | done | omega)), (by first | omega | decide | (dsimp only; first | done | omega))⟩ (fun _ _ z => z.elim) ?_
          rintro r h4 ⟨rfl, rfl⟩
          refine V_if_eq (tgt := 73) X d_S_commit_62 (by decide) (fun c_62 => ?_) (fun c_62 => ?_)
          · have e3 := b01_f c_62
            refine good ?_ _ _ (by omega) (by omega)
            rw [unsf, e1, Bool.true_and, Bool.or_eq_false_iff]
            exact ⟨e2, e3⟩
          · have e3 := b01_t c_62
            exact bad (by rw [unsf, e1, Bool.true_and, Bool.or_eq_true]; exact Or.inr e3) _ _ (by omega) (by omega)
    refine al_2 X d_S_commit_21 ?_
    refine gf_S_121 X (by assumption) d_S_commit_22 ?_
    refine V_iconst (v := 1) X d_S_commit_25 (by decide) ?_
    refine V_icmp_ne (tgt := 42) X d_S_commit_26 (by decide) (fun c_26 => ?_) (fun c_26 => ?_)
    · have e0 : aftS tl (a, lv, sn, se, sp, ha, ws, rs, ps) = false := by simp [aftS, ctL, c_26]
      have m0 := mid (0 + 2 + 0) (0 + 12 + 0) (by omega) (by omega)
      rw [e0] at m0
      refine V_iconst (v := 0) X d_S_commit_42 (by decide) ?_
      refine is_3 X d_S_commit_43 rfl (by first | exact okp_n | exact okp_i | exact okp_r) ?_
      exact m0
    · refine al_0 X d_S_commit_29 ?_
      refine al_2 X d_S_commit_30 ?_
      refine V_iconst (v := 0) X d_S_commit_31 (by decide) ?_
      refine cl_S_124 X (c_S_hasAfter _ g N0 h2 false w.hs u1 u3 hq hf w.hu) (by assumption) d_S_commit_32 (by refine ⟨?_, ?_⟩ <;> first | decide | (dsimp only; first | done | omega)) (by first | decide | (simp only [List.map, rf_cat, cat_i, cat_l, List.sum_cons, List.sum_nil]; first | done | decide | omega)) ⟨(by first | omega | decide | (dsimp only; first | done | omega)), (by first | omega | decide | (dsimp only; first | done | omega))⟩ (fun _ _ z => z.elim) ?_
      rintro r h3 ⟨rfl, rfl⟩
      have ea : aftS tl (a, lv, sn, se, sp, ha, ws, rs, ps) = tl.any (pAft sn rs false) := by simp [aftS, ctL, c_26]; rfl
      have m0 := mid (0 + 2 + 0 + 0) (0 + 12 + 0 + 0) (by omega) (by omega)
      refine V_if_eq (tgt := 42) X d_S_commit_35 (by decide) (fun c_35 => ?_) (fun c_35 => ?_)
      · rw [ea, b01_f c_35] at m0
        refine V_iconst (v := 0) X d_S_commit_42 (by decide) ?_
        refine is_3 X d_S_commit_43 rfl (by first | exact okp_n | exact okp_i | exact okp_r) ?_
        exact m0
      · rw [ea, b01_t c_35] at m0
        refine V_iconst (v := 1) X d_S_commit_38 (by decide) ?_
        refine V_goto (tgt := 43) X d_S_commit_39 (by decide) ?_
        refine is_3 X d_S_commit_43 rfl (by first | exact okp_n | exact okp_i | exact okp_r) ?_
        exact m0
  · have ec : conf kl (a, lv, sn, se, sp, ha, ws, rs, ps) = true := b01_t c_11
    refine al_2 X d_S_commit_14 ?_
    refine V_iconst (v := 2) X d_S_commit_15 (by decide) ?_
    refine cl_S_117 X (c_Tx_end _ g N0 h2 2 u1) (by assumption) d_S_commit_16 (by refine ⟨?_, ?_⟩ <;> first | decide | (dsimp only; first | done | omega)) (by first | decide | (simp only [List.map, rf_cat, cat_i, cat_l, List.sum_cons, List.sum_nil]; first | done | decide | omega)) ⟨(by first | omega | decide | (dsimp only; first | done | omega)), (by first | omega | decide | (dsimp only; first | done | omega))⟩ (fun _ _ z => z.elim) ?_
    rintro h3 rfl
    refine V_iconst (v := (-1)) X d_S_commit_19 (by decide) ?_
    refine V_iret X rfl d_S_commit_20 (by first | omega | decide | (dsimp only; first | done | omega)) (by first | omega | decide | (dsimp only; first | done | omega)) ?_
    exact ge _ ⟨_, i, hni, hti, hse, Or.inl ⟨ec, rfl, w.endT hti 2⟩⟩

-- chains of cells; the leaves of the class (walked by wip/whole/gen/expand.py out of wip/whole/tmpl)
def ptr {α : Type} : List (Nat × α) → Option Nat
  | [] => none
  | (a, _) :: _ => some a
def chain {α : Type} (cell : α → Option Nat → va_E) (h : Mp) : List (Nat × α) → Prop
  | [] => True
  | (a, x) :: t => h a = some (cell x (ptr t)) ∧ chain cell h t
abbrev cKey (x : Int32 × Option Nat) (nx : Option Nat) : va_E := .inr (0, [.int x.1, va_rf nx, va_rf x.2])
abbrev cPl (x : Int32 × Option Nat) (nx : Option Nat) : va_E := .inr (1, [.int x.1, va_rf x.2, va_rf nx])
abbrev cRng (x : Int32 × Int32) (nx : Option Nat) : va_E := .inr (2, [.int x.1, .int x.2, va_rf nx])
abbrev cTx (lv sn se sp ha : Int32) (lt rg pl : Option Nat) : va_E := .inr (3, [.int lv, .int sn, .int se, .int sp, .int ha, va_rf lt, va_rf rg, va_rf pl])
abbrev cVer (x : Int32 × Int64) (nx : Option Nat) : va_E := .inr (4, [.int x.1, .long x.2, va_rf nx])
abbrev cWr (x : Int32 × Int64 × Int32) (nx : Option Nat) : va_E := .inr (5, [.int x.1, .long x.2.1, .int x.2.2, va_rf nx])
abbrev LV : Type := List (Nat × Int32 × Int64)
abbrev LW : Type := List (Nat × Int32 × Int64 × Int32)
abbrev LR : Type := List (Nat × Int32 × Int32)
abbrev LQ : Type := List (Nat × Int32 × Option Nat)
def vdrop (s : Int32) (vs : LV) : LV := vs.dropWhile (fun v => !decide (v.2.1 ≤ s))
def vcont (vs : LV) : Int64 := match vs with
  | [] => 4294967296
  | (_, _, c) :: _ => c
def wdrop (n : Int32) (ws : LW) : LW := ws.dropWhile (fun w => !decide (w.2.1 = n))
def wkeys (ws : LW) : Int32 := match ws with
  | [] => 0
  | (_, _, _, k) :: _ => k
def pdrop (n : Int32) (ps : LQ) : LQ := ps.dropWhile (fun p => !decide (p.2.1 = n))
def pcnt (ps : LQ) : Int32 := match ps with
  | [] => 0
  | (_, n, _) :: _ => n + 1
def rhit (n : Int32) (r : Nat × Int32 × Int32) : Bool := decide (r.2.1 ≤ n) && decide (n ≤ r.2.2)
def rread (rs : LR) (n : Int32) : Bool := rs.any (rhit n)
def rany (rs : LR) (ws : LW) : Bool := ws.any (fun w => rread rs w.2.1)
theorem chain_drop {α : Type} {cell : α → Option Nat → va_E} {h : Mp} (p : Nat × α → Bool) : ∀ {l : List (Nat × α)}, chain cell h l → chain cell h (l.dropWhile p)
  | [], hc => hc
  | (a, x) :: t, hc => by
    rw [List.dropWhile_cons]
    split
    · exact chain_drop p hc.2
    · exact hc
-- Key.versionAt
theorem w_Key_versionAt {K : Cx} {g : GG} {N0 : Nat → Prop} {h : Mp} {post : Option Value → Mp → Prop} {xp : String → Mp → Prop} {mc ms : Nat} (X : Fx K g N0 b_Key_versionAt 3 "SnapshotStore$Key" { frames := 0, cells := mc, slots := ms, locals := 0 } (some (.object "SnapshotStore$Version")) "versionAt" []) {a : Nat} {s : Int32} : ∀ (vs : LV), chain cVer h vs → post (some (va_rf (ptr (vdrop s vs)))) h → V K g N0 3 (RQ K g N0 post xp mc ms)  h 0 0 5 [some (va_rf (some a)), some (.int s), some (va_rf (ptr vs))] [] := by
  intro vs
  induction vs with
  | nil =>
    intro hv hp
    refine al_2 X d_Key_versionAt_5 ?_
    refine V_ifnull (tgt := 27) X d_Key_versionAt_6 (by decide) (fun c_6 => ?_) (fun b_6 c_6 => ?_)
    · refine V_null X d_Key_versionAt_27 ?_
      refine V_aret X rfl d_Key_versionAt_28 (by first | omega | decide | (dsimp only; first | done | omega)) (by first | omega | decide | (dsimp only; first | done | omega)) ?_
      exact hp
    · cases c_6
  | cons x t ih =>
    obtain ⟨b, s', c'⟩ := x
    intro hv hp
    obtain ⟨hv1, hv2⟩ := hv
    dsimp only [ptr]
    refine al_2 X d_Key_versionAt_5 ?_
    refine V_ifnull (tgt := 27) X d_Key_versionAt_6 (by decide) (fun c_6 => ?_) (fun b_6 c_6 => ?_)
    · cases c_6
    · refine al_2 X d_Key_versionAt_9 ?_
      refine gf_Key_23 X (by assumption) d_Key_versionAt_10 ?_
      refine il_1 X d_Key_versionAt_13 ?_
      refine V_icmp_gt (tgt := 19) X d_Key_versionAt_14 (by decide) (fun c_14 => ?_) (fun c_14 => ?_)
      · refine al_2 X d_Key_versionAt_19 ?_
        refine gf_Key_28 X (by assumption) d_Key_versionAt_20 ?_
        refine as_2 X d_Key_versionAt_23 rfl (by first | exact okp_n | exact okp_i | exact okp_r) ?_
        refine V_goto (tgt := 5) X d_Key_versionAt_24 (by decide) ?_
        exact ih hv2 (by rwa [vdrop, List.dropWhile_cons_of_pos (by simpa using c_14)] at hp)
      · refine al_2 X d_Key_versionAt_17 ?_
        refine V_aret X rfl d_Key_versionAt_18 (by first | omega | decide | (dsimp only; first | done | omega)) (by first | omega | decide | (dsimp only; first | done | omega)) ?_
        rwa [vdrop, List.dropWhile_cons_of_neg (by simpa using c_14)] at hp
theorem c_Key_versionAt (l : Launch) (g : GG) (N0 : Nat → Prop) (h : Mp) {a : Nat} {nm : Int32} {nx : Option Nat} {vs : LV} (s : Int32) (hk : h a = some (cKey (nm, ptr vs) nx)) (hv : chain cVer h vs) : Ct l y_Key_versionAt b_Key_versionAt 3 (some (.object "SnapshotStore$Version")) 0 0 0 0 g N0 h [va_rf (some a), .int s] (pR (fun r h' => r = ptr (vdrop s vs) ∧ h' = h)) nox := by
  refine Ct_of "SnapshotStore$Key" "versionAt" [some (va_rf (some a)), some (.int s), none] (by decide) rfl rfl (by simp [lg_sl, rf_cat, cat_i, cat_l]) (by simp [toL, lv_args, rf_cat, cat_i, cat_l]) (fun K hl X => ?_)
  refine al_0 X d_Key_versionAt_0 ?_
  refine gf_Key_19 X (by assumption) d_Key_versionAt_1 ?_
  refine as_2 X d_Key_versionAt_4 rfl (by first | exact okp_n | exact okp_i | exact okp_r) ?_
  exact w_Key_versionAt X vs hv ⟨_, rfl, rfl, rfl⟩
-- Key.contentAt
theorem c_Key_contentAt (l : Launch) (g : GG) (N0 : Nat → Prop) (h : Mp) {a : Nat} {nm : Int32} {nx : Option Nat} {vs : LV} (s : Int32) (hk : h a = some (cKey (nm, ptr vs) nx)) (hv : chain cVer h vs) : Ct l y_Key_contentAt b_Key_contentAt 3 (some .long) 1 22 0 0 g N0 h [va_rf (some a), .int s] (pL (fun r h' => r = vcont (vdrop s vs) ∧ h' = h)) nox := by
  refine Ct_of "SnapshotStore$Key" "contentAt" [some (va_rf (some a)), some (.int s), none] (by decide) rfl rfl (by simp [lg_sl, rf_cat, cat_i, cat_l]) (by simp [toL, lv_args, rf_cat, cat_i, cat_l]) (fun K hl X => ?_)
  refine al_0 X d_Key_contentAt_0 ?_
  refine il_1 X d_Key_contentAt_1 ?_
  refine cl_Key_31 X (c_Key_versionAt _ g N0 h s hk hv) (by assumption) d_Key_contentAt_2 (by refine ⟨?_, ?_⟩ <;> first | decide | (dsimp only; first | done | omega)) (by first | decide | (simp only [List.map, rf_cat, cat_i, cat_l, List.sum_cons, List.sum_nil]; first | done | decide | omega)) ⟨(by first | omega | decide | (dsimp only; first | done | omega)), (by first | omega | decide | (dsimp only; first | done | omega))⟩ (fun _ _ z => z.elim) ?_
  rintro r h' ⟨rfl, rfl⟩
  have hd := chain_drop (fun v : Nat × Int32 × Int64 => !decide (v.2.1 ≤ s)) hv
  change chain cVer h' (vdrop s vs) at hd
  generalize vdrop s vs = ws at hd ⊢
  refine as_2 X d_Key_contentAt_5 rfl (by first | exact okp_n | exact okp_i | exact okp_r) ?_
  refine al_2 X d_Key_contentAt_6 ?_
  cases ws with
  | nil =>
    refine V_ifnonnull (tgt := 16) X d_Key_contentAt_7 (by decide) (fun b_7 c_7 => ?_) (fun c_7 => ?_)
    · cases c_7
    · refine V_ldc2 X k_99 d_Key_contentAt_10 ?_
      refine V_goto (tgt := 20) X d_Key_contentAt_13 (by decide) ?_
      refine V_lret X rfl d_Key_contentAt_20 (by first | omega | decide | (dsimp only; first | done | omega)) (by first | omega | decide | (dsimp only; first | done | omega)) ?_
      exact ⟨_, rfl, rfl, rfl⟩
  | cons x t =>
    obtain ⟨b, s', c'⟩ := x
    obtain ⟨hv1, hv2⟩ := hd
    dsimp only [ptr]
    refine V_ifnonnull (tgt := 16) X d_Key_contentAt_7 (by decide) (fun b_7 c_7 => ?_) (fun c_7 => ?_)
    · cases c_7
      refine al_2 X d_Key_contentAt_16 ?_
      refine gf_Key_37 X (by assumption) d_Key_contentAt_17 ?_
      refine V_lret X rfl d_Key_contentAt_20 (by first | omega | decide | (dsimp only; first | done | omega)) (by first | omega | decide | (dsimp only; first | done | omega)) ?_
      exact ⟨_, rfl, rfl, rfl⟩
    · cases c_7
-- Key.versionCount
theorem w_Key_versionCount {K : Cx} {g : GG} {N0 : Nat → Prop} {h : Mp} {post : Option Value → Mp → Prop} {xp : String → Mp → Prop} {mc ms : Nat} (X : Fx K g N0 b_Key_versionCount 3 "SnapshotStore$Key" { frames := 0, cells := mc, slots := ms, locals := 0 } (some .int) "versionCount" []) {a : Nat} : ∀ (vs : LV) (n : Nat), chain cVer h vs → post (some (.int (nI (n + vs.length)))) h → V K g N0 3 (RQ K g N0 post xp mc ms)  h 0 0 7 [some (va_rf (some a)), some (.int (nI n)), some (va_rf (ptr vs))] [] := by
  intro vs
  induction vs with
  | nil =>
    intro n hv hp
    refine al_2 X d_Key_versionCount_7 ?_
    refine V_ifnull (tgt := 22) X d_Key_versionCount_8 (by decide) (fun c_8 => ?_) (fun b_8 c_8 => ?_)
    · refine il_1 X d_Key_versionCount_22 ?_
      refine V_iret X rfl d_Key_versionCount_23 (by first | omega | decide | (dsimp only; first | done | omega)) (by first | omega | decide | (dsimp only; first | done | omega)) ?_
      exact hp
    · cases c_8
  | cons x t ih =>
    obtain ⟨b, s', c'⟩ := x
    intro n hv hp
    obtain ⟨hv1, hv2⟩ := hv
    dsimp only [ptr]
    refine al_2 X d_Key_versionCount_7 ?_
    refine V_ifnull (tgt := 22) X d_Key_versionCount_8 (by decide) (fun c_8 => ?_) (fun b_8 c_8 => ?_)
    · cases c_8
    · refine ic_1 (v := (nI (n+1))) X d_Key_versionCount_11 (nI_1 n) rfl (by first | exact okp_n | exact okp_i | exact okp_r) ?_
      refine al_2 X d_Key_versionCount_14 ?_
      refine gf_Key_28 X (by assumption) d_Key_versionCount_15 ?_
      refine as_2 X d_Key_versionCount_18 rfl (by first | exact okp_n | exact okp_i | exact okp_r) ?_
      refine V_goto (tgt := 7) X d_Key_versionCount_19 (by decide) ?_
      exact ih (n + 1) hv2 (by rwa [List.length_cons, show n + (t.length + 1) = n + 1 + t.length by omega] at hp)
theorem c_Key_versionCount (l : Launch) (g : GG) (N0 : Nat → Prop) (h : Mp) {a : Nat} {nm : Int32} {nx : Option Nat} {vs : LV} (hk : h a = some (cKey (nm, ptr vs) nx)) (hv : chain cVer h vs) : Ct l y_Key_versionCount b_Key_versionCount 3 (some .int) 0 0 0 0 g N0 h [va_rf (some a)] (pI (fun r h' => r = nI vs.length ∧ h' = h)) nox := by
  refine Ct_of "SnapshotStore$Key" "versionCount" [some (va_rf (some a)), none, none] (by decide) rfl rfl (by simp [lg_sl, rf_cat, cat_i, cat_l]) (by simp [toL, lv_args, rf_cat, cat_i, cat_l]) (fun K hl X => ?_)
  refine V_iconst (v := 0) X d_Key_versionCount_0 (by decide) ?_
  refine is_1 X d_Key_versionCount_1 rfl (by first | exact okp_n | exact okp_i | exact okp_r) ?_
  refine al_0 X d_Key_versionCount_2 ?_
  refine gf_Key_19 X (by assumption) d_Key_versionCount_3 ?_
  refine as_2 X d_Key_versionCount_6 rfl (by first | exact okp_n | exact okp_i | exact okp_r) ?_
  exact w_Key_versionCount X vs 0 hv ⟨_, rfl, by rw [Nat.zero_add], rfl⟩
-- Key.isInOrder, where it is
def vord (c : Int32) : LV → Prop
  | [] => True
  | (_, s, _) :: t => s ≤ c ∧ (∀ x ∈ t.head?, x.2.1 < s) ∧ vord c t
theorem w_Key_isInOrder {K : Cx} {g : GG} {N0 : Nat → Prop} {h : Mp} {post : Option Value → Mp → Prop} {xp : String → Mp → Prop} {mc ms : Nat} (X : Fx K g N0 b_Key_isInOrder 3 "SnapshotStore$Key" { frames := 0, cells := mc, slots := ms, locals := 0 } (some .boolean) "isInOrder" []) {a : Nat} {c : Int32} : ∀ (vs : LV), chain cVer h vs → vord c vs → post (some (.int 1)) h → V K g N0 3 (RQ K g N0 post xp mc ms)  h 0 0 5 [some (va_rf (some a)), some (.int c), some (va_rf (ptr vs))] [] := by
  intro vs
  induction vs with
  | nil =>
    intro hv ho hp
    refine al_2 X d_Key_isInOrder_5 ?_
    refine V_ifnull (tgt := 48) X d_Key_isInOrder_6 (by decide) (fun c_6 => ?_) (fun b_6 c_6 => ?_)
    · refine V_iconst (v := 1) X d_Key_isInOrder_48 (by decide) ?_
      refine V_zret X rfl (by first | rfl | exact nr_z (by assumption)) d_Key_isInOrder_49 (by first | omega | decide | (dsimp only; first | done | omega)) (by first | omega | decide | (dsimp only; first | done | omega)) ?_
      exact hp
    · cases c_6
  | cons x t ih =>
    obtain ⟨b, s', c'⟩ := x
    intro hv ho hp
    obtain ⟨hv1, hv2⟩ := hv
    obtain ⟨ho1, ho2, ho3⟩ := ho
    dsimp only [ptr]
    refine al_2 X d_Key_isInOrder_5 ?_
    refine V_ifnull (tgt := 48) X d_Key_isInOrder_6 (by decide) (fun c_6 => ?_) (fun b_6 c_6 => ?_)
    · cases c_6
    · refine al_2 X d_Key_isInOrder_9 ?_
      refine gf_Key_23 X (by assumption) d_Key_isInOrder_10 ?_
      refine il_1 X d_Key_isInOrder_13 ?_
      refine V_icmp_gt (tgt := 38) X d_Key_isInOrder_14 (by decide) (fun c_14 => ?_) (fun c_14 => ?_)
      · exact absurd ho1 (Int32.not_le.mpr c_14)
      · refine al_2 X d_Key_isInOrder_17 ?_
        refine gf_Key_28 X (by assumption) d_Key_isInOrder_18 ?_
        cases t with
        | nil =>
          refine V_ifnull (tgt := 40) X d_Key_isInOrder_21 (by decide) (fun c_21 => ?_) (fun b_21 c_21 => ?_)
          · refine al_2 X d_Key_isInOrder_40 ?_
            refine gf_Key_28 X (by assumption) d_Key_isInOrder_41 ?_
            refine as_2 X d_Key_isInOrder_44 rfl (by first | exact okp_n | exact okp_i | exact okp_r) ?_
            refine V_goto (tgt := 5) X d_Key_isInOrder_45 (by decide) ?_
            exact ih hv2 ho3 hp
          · cases c_21
        | cons y t2 =>
          obtain ⟨b2, s2, c2⟩ := y
          have hv3 := hv2.1
          dsimp only [ptr] at hv1 ⊢
          refine V_ifnull (tgt := 40) X d_Key_isInOrder_21 (by decide) (fun c_21 => ?_) (fun b_21 c_21 => ?_)
          · cases c_21
          · refine al_2 X d_Key_isInOrder_24 ?_
            refine gf_Key_28 X (by assumption) d_Key_isInOrder_25 ?_
            refine gf_Key_23 X (by assumption) d_Key_isInOrder_28 ?_
            refine al_2 X d_Key_isInOrder_31 ?_
            refine gf_Key_23 X (by assumption) d_Key_isInOrder_32 ?_
            refine V_icmp_lt (tgt := 40) X d_Key_isInOrder_35 (by decide) (fun c_35 => ?_) (fun c_35 => ?_)
            · refine al_2 X d_Key_isInOrder_40 ?_
              refine gf_Key_28 X (by assumption) d_Key_isInOrder_41 ?_
              refine as_2 X d_Key_isInOrder_44 rfl (by first | exact okp_n | exact okp_i | exact okp_r) ?_
              refine V_goto (tgt := 5) X d_Key_isInOrder_45 (by decide) ?_
              exact ih hv2 ho3 hp
            · exact absurd (ho2 (b2, s2, c2) rfl) c_35
theorem c_Key_isInOrder (l : Launch) (g : GG) (N0 : Nat → Prop) (h : Mp) {a : Nat} {nm : Int32} {nx : Option Nat} {vs : LV} (c : Int32) (hk : h a = some (cKey (nm, ptr vs) nx)) (hv : chain cVer h vs) (ho : vord c vs) : Ct l y_Key_isInOrder b_Key_isInOrder 3 (some .boolean) 0 0 0 0 g N0 h [va_rf (some a), .int c] (pI (fun r h' => r = 1 ∧ h' = h)) nox := by
  refine Ct_of "SnapshotStore$Key" "isInOrder" [some (va_rf (some a)), some (.int c), none] (by decide) rfl rfl (by simp [lg_sl, rf_cat, cat_i, cat_l]) (by simp [toL, lv_args, rf_cat, cat_i, cat_l]) (fun K hl X => ?_)
  refine al_0 X d_Key_isInOrder_0 ?_
  refine gf_Key_19 X (by assumption) d_Key_isInOrder_1 ?_
  refine as_2 X d_Key_isInOrder_4 rfl (by first | exact okp_n | exact okp_i | exact okp_r) ?_
  exact w_Key_isInOrder X vs hv ho ⟨_, rfl, rfl, rfl⟩
-- Key.unlink
theorem c_Key_unlink (l : Launch) (g : GG) (N0 : Nat → Prop) (h : Mp) {a v : Nat} {nm : Int32} {nx nw vo : Option Nat} {sv : Int32} {cv : Int64} (hk : h a = some (cKey (nm, nw) nx)) (hv : h v = some (cVer (sv, cv) vo)) (nr : Option Nat) (hn : ∀ n, nr = some n → ∃ s c o, h n = some (cVer (s, c) o)) : Ct l y_Key_unlink b_Key_unlink 3 none 0 0 0 0 g N0 h [va_rf (some a), va_rf (some v), va_rf nr] (pV (fun h' => (nr = none → h' = mUp h a (cKey (nm, vo) nx)) ∧ ∀ n s c o, nr = some n → h n = some (cVer (s, c) o) → h' = mUp h n (cVer (s, c) vo))) nox := by
  refine Ct_of "SnapshotStore$Key" "unlink" [some (va_rf (some a)), some (va_rf (some v)), some (va_rf nr)] (by decide) rfl rfl (by simp [lg_sl, rf_cat, cat_i, cat_l]) (by simp [toL, lv_args, rf_cat, cat_i, cat_l]) (fun K hl X => ?_)
  refine al_2 X d_Key_unlink_0 ?_
  refine V_ifnonnull (tgt := 15) X d_Key_unlink_1 (by decide) (fun b_1 c_1 => ?_) (fun c_1 => ?_)
  · subst c_1
    obtain ⟨s, c, o, hn⟩ := hn b_1 rfl
    refine al_2 X d_Key_unlink_15 ?_
    refine al_1 X d_Key_unlink_16 ?_
    refine gf_Key_28 X (by assumption) d_Key_unlink_17 ?_
    refine pf_Key_28 X (by assumption) d_Key_unlink_20 ?_
    refine V_vret X rfl d_Key_unlink_23 (by first | omega | decide | (dsimp only; first | done | omega)) (by first | omega | decide | (dsimp only; first | done | omega)) ?_
    refine ⟨rfl, And.intro (fun z => by cases z) (fun n s2 c2 o2 hz hn2 => ?_)⟩
    cases hz
    rw [hn] at hn2
    simp only [Option.some.injEq, Sum.inr.injEq, Prod.mk.injEq, List.cons.injEq, Value.int.injEq, Value.long.injEq] at hn2
    obtain ⟨-, rfl, rfl, -⟩ := hn2
    rfl
  · subst c_1
    refine al_0 X d_Key_unlink_4 ?_
    refine al_1 X d_Key_unlink_5 ?_
    refine gf_Key_28 X (by assumption) d_Key_unlink_6 ?_
    refine pf_Key_19 X (by assumption) d_Key_unlink_9 ?_
    refine V_goto (tgt := 23) X d_Key_unlink_12 (by decide) ?_
    refine V_vret X rfl d_Key_unlink_23 (by first | omega | decide | (dsimp only; first | done | omega)) (by first | omega | decide | (dsimp only; first | done | omega)) ?_
    exact ⟨rfl, And.intro (fun _ => rfl) (fun n s2 c2 o2 hz => by cases hz)⟩
-- Transaction.end
theorem c_Tx_end (l : Launch) (g : GG) (N0 : Nat → Prop) (h : Mp) {a : Nat} {lv sn se sp ha : Int32} {lt rg pl : Option Nat} (how : Int32) (hk : h a = some (cTx lv sn se sp ha lt rg pl)) : Ct l y_Tx_end b_Tx_end 2 none 0 0 0 0 g N0 h [va_rf (some a), .int how] (pV (fun h' => h' = mUp h a (cTx lv sn how sp ha lt rg none))) nox := by
  refine Ct_of "SnapshotStore$Transaction" "end" [some (va_rf (some a)), some (.int how)] (by decide) rfl rfl (by simp [lg_sl, rf_cat, cat_i, cat_l]) (by simp [toL, lv_args, rf_cat, cat_i, cat_l]) (fun K hl X => ?_)
  refine al_0 X d_Tx_end_0 ?_
  refine il_1 X d_Tx_end_1 ?_
  refine pf_Tx_9 X (by assumption) d_Tx_end_2 ?_
  refine al_0 X d_Tx_end_5 ?_
  refine V_null X d_Tx_end_6 ?_
  refine pf_Tx_24 X (mUp_s _ _ _) d_Tx_end_7 ?_
  refine V_vret X rfl d_Tx_end_10 (by first | omega | decide | (dsimp only; first | done | omega)) (by first | omega | decide | (dsimp only; first | done | omega)) ?_
  exact ⟨rfl, mUp_uu _ _ _ _⟩
-- Transaction.writtenKeys
theorem c_Tx_writtenKeys (l : Launch) (g : GG) (N0 : Nat → Prop) (h : Mp) {a : Nat} {lv sn se sp ha : Int32} {ws : LW} {rg pl : Option Nat} (hk : h a = some (cTx lv sn se sp ha (ptr ws) rg pl)) (hw : chain cWr h ws) : Ct l y_Tx_writtenKeys b_Tx_writtenKeys 1 (some .int) 0 0 0 0 g N0 h [va_rf (some a)] (pI (fun r h' => r = wkeys ws ∧ h' = h)) nox := by
  refine Ct_of "SnapshotStore$Transaction" "writtenKeys" [some (va_rf (some a))] (by decide) rfl rfl (by simp [lg_sl, rf_cat, cat_i, cat_l]) (by simp [toL, lv_args, rf_cat, cat_i, cat_l]) (fun K hl X => ?_)
  refine al_0 X d_Tx_writtenKeys_0 ?_
  refine gf_Tx_28 X (by assumption) d_Tx_writtenKeys_1 ?_
  cases ws with
  | nil =>
    refine V_ifnonnull (tgt := 11) X d_Tx_writtenKeys_4 (by decide) (fun b_4 c_4 => ?_) (fun c_4 => ?_)
    · cases c_4
    · refine V_iconst (v := 0) X d_Tx_writtenKeys_7 (by decide) ?_
      refine V_goto (tgt := 18) X d_Tx_writtenKeys_8 (by decide) ?_
      refine V_iret X rfl d_Tx_writtenKeys_18 (by first | omega | decide | (dsimp only; first | done | omega)) (by first | omega | decide | (dsimp only; first | done | omega)) ?_
      exact ⟨_, rfl, rfl, rfl⟩
  | cons x t =>
    obtain ⟨b, n, c, k⟩ := x
    obtain ⟨hw1, hw2⟩ := hw
    dsimp only [ptr] at hk ⊢
    refine V_ifnonnull (tgt := 11) X d_Tx_writtenKeys_4 (by decide) (fun b_4 c_4 => ?_) (fun c_4 => ?_)
    · refine al_0 X d_Tx_writtenKeys_11 ?_
      refine gf_Tx_28 X (by assumption) d_Tx_writtenKeys_12 ?_
      refine gf_Tx_32 X (by assumption) d_Tx_writtenKeys_15 ?_
      refine V_iret X rfl d_Tx_writtenKeys_18 (by first | omega | decide | (dsimp only; first | done | omega)) (by first | omega | decide | (dsimp only; first | done | omega)) ?_
      exact ⟨_, rfl, rfl, rfl⟩
    · cases c_4
-- Transaction.writeOf
theorem w_Tx_writeOf {K : Cx} {g : GG} {N0 : Nat → Prop} {h : Mp} {post : Option Value → Mp → Prop} {xp : String → Mp → Prop} {mc ms : Nat} (X : Fx K g N0 b_Tx_writeOf 3 "SnapshotStore$Transaction" { frames := 0, cells := mc, slots := ms, locals := 0 } (some (.object "SnapshotStore$Write")) "writeOf" []) {a : Nat} {n : Int32} : ∀ (ws : LW), chain cWr h ws → post (some (va_rf (ptr (wdrop n ws)))) h → V K g N0 3 (RQ K g N0 post xp mc ms)  h 0 0 5 [some (va_rf (some a)), some (.int n), some (va_rf (ptr ws))] [] := by
  intro ws
  induction ws with
  | nil =>
    intro hv hp
    refine al_2 X d_Tx_writeOf_5 ?_
    refine V_ifnull (tgt := 27) X d_Tx_writeOf_6 (by decide) (fun c_6 => ?_) (fun b_6 c_6 => ?_)
    · refine V_null X d_Tx_writeOf_27 ?_
      refine V_aret X rfl d_Tx_writeOf_28 (by first | omega | decide | (dsimp only; first | done | omega)) (by first | omega | decide | (dsimp only; first | done | omega)) ?_
      exact hp
    · cases c_6
  | cons x t ih =>
    obtain ⟨b, n', c', k'⟩ := x
    intro hv hp
    obtain ⟨hv1, hv2⟩ := hv
    dsimp only [ptr]
    refine al_2 X d_Tx_writeOf_5 ?_
    refine V_ifnull (tgt := 27) X d_Tx_writeOf_6 (by decide) (fun c_6 => ?_) (fun b_6 c_6 => ?_)
    · cases c_6
    · refine al_2 X d_Tx_writeOf_9 ?_
      refine gf_Tx_37 X (by assumption) d_Tx_writeOf_10 ?_
      refine il_1 X d_Tx_writeOf_13 ?_
      refine V_icmp_ne (tgt := 19) X d_Tx_writeOf_14 (by decide) (fun c_14 => ?_) (fun c_14 => ?_)
      · refine al_2 X d_Tx_writeOf_19 ?_
        refine gf_Tx_40 X (by assumption) d_Tx_writeOf_20 ?_
        refine as_2 X d_Tx_writeOf_23 rfl (by first | exact okp_n | exact okp_i | exact okp_r) ?_
        refine V_goto (tgt := 5) X d_Tx_writeOf_24 (by decide) ?_
        exact ih hv2 (by rwa [wdrop, List.dropWhile_cons_of_pos (by simpa using c_14)] at hp)
      · refine al_2 X d_Tx_writeOf_17 ?_
        refine V_aret X rfl d_Tx_writeOf_18 (by first | omega | decide | (dsimp only; first | done | omega)) (by first | omega | decide | (dsimp only; first | done | omega)) ?_
        rwa [wdrop, List.dropWhile_cons_of_neg (by simpa using c_14)] at hp
theorem c_Tx_writeOf (l : Launch) (g : GG) (N0 : Nat → Prop) (h : Mp) {a : Nat} {lv sn se sp ha : Int32} {ws : LW} {rg pl : Option Nat} (n : Int32) (hk : h a = some (cTx lv sn se sp ha (ptr ws) rg pl)) (hw : chain cWr h ws) : Ct l y_Tx_writeOf b_Tx_writeOf 3 (some (.object "SnapshotStore$Write")) 0 0 0 0 g N0 h [va_rf (some a), .int n] (pR (fun r h' => r = ptr (wdrop n ws) ∧ h' = h)) nox := by
  refine Ct_of "SnapshotStore$Transaction" "writeOf" [some (va_rf (some a)), some (.int n), none] (by decide) rfl rfl (by simp [lg_sl, rf_cat, cat_i, cat_l]) (by simp [toL, lv_args, rf_cat, cat_i, cat_l]) (fun K hl X => ?_)
  refine al_0 X d_Tx_writeOf_0 ?_
  refine gf_Tx_28 X (by assumption) d_Tx_writeOf_1 ?_
  refine as_2 X d_Tx_writeOf_4 rfl (by first | exact okp_n | exact okp_i | exact okp_r) ?_
  exact w_Tx_writeOf X ws hw ⟨_, rfl, rfl, rfl⟩
-- Transaction.placeCount
theorem c_Tx_placeCount (l : Launch) (g : GG) (N0 : Nat → Prop) (h : Mp) {a : Nat} {lv sn se sp ha : Int32} {lt rg : Option Nat} {ps : LQ} (hk : h a = some (cTx lv sn se sp ha lt rg (ptr ps))) (hw : chain cPl h ps) : Ct l y_Tx_placeCount b_Tx_placeCount 1 (some .int) 0 0 0 0 g N0 h [va_rf (some a)] (pI (fun r h' => r = pcnt ps ∧ h' = h)) nox := by
  refine Ct_of "SnapshotStore$Transaction" "placeCount" [some (va_rf (some a))] (by decide) rfl rfl (by simp [lg_sl, rf_cat, cat_i, cat_l]) (by simp [toL, lv_args, rf_cat, cat_i, cat_l]) (fun K hl X => ?_)
  refine al_0 X d_Tx_placeCount_0 ?_
  refine gf_Tx_24 X (by assumption) d_Tx_placeCount_1 ?_
  cases ps with
  | nil =>
    refine V_ifnonnull (tgt := 11) X d_Tx_placeCount_4 (by decide) (fun b_4 c_4 => ?_) (fun c_4 => ?_)
    · cases c_4
    · refine V_iconst (v := 0) X d_Tx_placeCount_7 (by decide) ?_
      refine V_goto (tgt := 20) X d_Tx_placeCount_8 (by decide) ?_
      refine V_iret X rfl d_Tx_placeCount_20 (by first | omega | decide | (dsimp only; first | done | omega)) (by first | omega | decide | (dsimp only; first | done | omega)) ?_
      exact ⟨_, rfl, rfl, rfl⟩
  | cons x t =>
    obtain ⟨b, n, c⟩ := x
    obtain ⟨hw1, hw2⟩ := hw
    dsimp only [ptr] at hk ⊢
    refine V_ifnonnull (tgt := 11) X d_Tx_placeCount_4 (by decide) (fun b_4 c_4 => ?_) (fun c_4 => ?_)
    · refine al_0 X d_Tx_placeCount_11 ?_
      refine gf_Tx_24 X (by assumption) d_Tx_placeCount_12 ?_
      refine gf_Tx_43 X (by assumption) d_Tx_placeCount_15 ?_
      refine V_iconst (v := 1) X d_Tx_placeCount_18 (by decide) ?_
      refine V_iadd X d_Tx_placeCount_19 ?_
      refine V_iret X rfl d_Tx_placeCount_20 (by first | omega | decide | (dsimp only; first | done | omega)) (by first | omega | decide | (dsimp only; first | done | omega)) ?_
      exact ⟨_, rfl, rfl, rfl⟩
    · cases c_4
-- Transaction.placeNumbered
theorem w_Tx_placeNumbered {K : Cx} {g : GG} {N0 : Nat → Prop} {h : Mp} {post : Option Value → Mp → Prop} {xp : String → Mp → Prop} {mc ms : Nat} (X : Fx K g N0 b_Tx_placeNumbered 3 "SnapshotStore$Transaction" { frames := 0, cells := mc, slots := ms, locals := 0 } (some (.object "SnapshotStore$Place")) "placeNumbered" []) {a : Nat} {n : Int32} : ∀ (ws : LQ), chain cPl h ws → post (some (va_rf (ptr (pdrop n ws)))) h → V K g N0 3 (RQ K g N0 post xp mc ms)  h 0 0 5 [some (va_rf (some a)), some (.int n), some (va_rf (ptr ws))] [] := by
  intro ws
  induction ws with
  | nil =>
    intro hv hp
    refine al_2 X d_Tx_placeNumbered_5 ?_
    refine V_ifnull (tgt := 27) X d_Tx_placeNumbered_6 (by decide) (fun c_6 => ?_) (fun b_6 c_6 => ?_)
    · refine V_null X d_Tx_placeNumbered_27 ?_
      refine V_aret X rfl d_Tx_placeNumbered_28 (by first | omega | decide | (dsimp only; first | done | omega)) (by first | omega | decide | (dsimp only; first | done | omega)) ?_
      exact hp
    · cases c_6
  | cons x t ih =>
    obtain ⟨b, n', c'⟩ := x
    intro hv hp
    obtain ⟨hv1, hv2⟩ := hv
    dsimp only [ptr]
    refine al_2 X d_Tx_placeNumbered_5 ?_
    refine V_ifnull (tgt := 27) X d_Tx_placeNumbered_6 (by decide) (fun c_6 => ?_) (fun b_6 c_6 => ?_)
    · cases c_6
    · refine al_2 X d_Tx_placeNumbered_9 ?_
      refine gf_Tx_43 X (by assumption) d_Tx_placeNumbered_10 ?_
      refine il_1 X d_Tx_placeNumbered_13 ?_
      refine V_icmp_ne (tgt := 19) X d_Tx_placeNumbered_14 (by decide) (fun c_14 => ?_) (fun c_14 => ?_)
      · refine al_2 X d_Tx_placeNumbered_19 ?_
        refine gf_Tx_48 X (by assumption) d_Tx_placeNumbered_20 ?_
        refine as_2 X d_Tx_placeNumbered_23 rfl (by first | exact okp_n | exact okp_i | exact okp_r) ?_
        refine V_goto (tgt := 5) X d_Tx_placeNumbered_24 (by decide) ?_
        exact ih hv2 (by rwa [pdrop, List.dropWhile_cons_of_pos (by simpa using c_14)] at hp)
      · refine al_2 X d_Tx_placeNumbered_17 ?_
        refine V_aret X rfl d_Tx_placeNumbered_18 (by first | omega | decide | (dsimp only; first | done | omega)) (by first | omega | decide | (dsimp only; first | done | omega)) ?_
        rwa [pdrop, List.dropWhile_cons_of_neg (by simpa using c_14)] at hp
theorem c_Tx_placeNumbered (l : Launch) (g : GG) (N0 : Nat → Prop) (h : Mp) {a : Nat} {lv sn se sp ha : Int32} {lt rg : Option Nat} {ps : LQ} (n : Int32) (hk : h a = some (cTx lv sn se sp ha lt rg (ptr ps))) (hw : chain cPl h ps) : Ct l y_Tx_placeNumbered b_Tx_placeNumbered 3 (some (.object "SnapshotStore$Place")) 0 0 0 0 g N0 h [va_rf (some a), .int n] (pR (fun r h' => r = ptr (pdrop n ps) ∧ h' = h)) nox := by
  refine Ct_of "SnapshotStore$Transaction" "placeNumbered" [some (va_rf (some a)), some (.int n), none] (by decide) rfl rfl (by simp [lg_sl, rf_cat, cat_i, cat_l]) (by simp [toL, lv_args, rf_cat, cat_i, cat_l]) (fun K hl X => ?_)
  refine al_0 X d_Tx_placeNumbered_0 ?_
  refine gf_Tx_24 X (by assumption) d_Tx_placeNumbered_1 ?_
  refine as_2 X d_Tx_placeNumbered_4 rfl (by first | exact okp_n | exact okp_i | exact okp_r) ?_
  exact w_Tx_placeNumbered X ps hw ⟨_, rfl, rfl, rfl⟩
-- Transaction.committedAbove
theorem c_Tx_committedAbove (l : Launch) (g : GG) (N0 : Nat → Prop) (h : Mp) {a : Nat} {lv sn se sp ha : Int32} {lt rg pl : Option Nat} (bd : Int32) (hk : h a = some (cTx lv sn se sp ha lt rg pl)) : Ct l y_Tx_committedAbove b_Tx_committedAbove 2 (some .boolean) 0 0 0 0 g N0 h [va_rf (some a), .int bd] (pI (fun r h' => r = b01 (decide (se = 1) && decide (bd < sp)) ∧ h' = h)) nox := by
  refine Ct_of "SnapshotStore$Transaction" "committedAbove" [some (va_rf (some a)), some (.int bd)] (by decide) rfl rfl (by simp [lg_sl, rf_cat, cat_i, cat_l]) (by simp [toL, lv_args, rf_cat, cat_i, cat_l]) (fun K hl X => ?_)
  refine al_0 X d_Tx_committedAbove_0 ?_
  refine gf_Tx_9 X (by assumption) d_Tx_committedAbove_1 ?_
  refine V_iconst (v := 1) X d_Tx_committedAbove_4 (by decide) ?_
  refine V_icmp_ne (tgt := 20) X d_Tx_committedAbove_5 (by decide) (fun c_5 => ?_) (fun c_5 => ?_)
  · refine V_iconst (v := 0) X d_Tx_committedAbove_20 (by decide) ?_
    refine V_zret X rfl (by first | rfl | exact nr_z (by assumption)) d_Tx_committedAbove_21 (by first | omega | decide | (dsimp only; first | done | omega)) (by first | omega | decide | (dsimp only; first | done | omega)) ?_
    exact ⟨_, rfl, by simp [c_5, b01], rfl⟩
  · refine al_0 X d_Tx_committedAbove_8 ?_
    refine gf_Tx_15 X (by assumption) d_Tx_committedAbove_9 ?_
    refine il_1 X d_Tx_committedAbove_12 ?_
    refine V_icmp_le (tgt := 20) X d_Tx_committedAbove_13 (by decide) (fun c_13 => ?_) (fun c_13 => ?_)
    · refine V_iconst (v := 0) X d_Tx_committedAbove_20 (by decide) ?_
      refine V_zret X rfl (by first | rfl | exact nr_z (by assumption)) d_Tx_committedAbove_21 (by first | omega | decide | (dsimp only; first | done | omega)) (by first | omega | decide | (dsimp only; first | done | omega)) ?_
      exact ⟨_, rfl, by simp [b01, Int32.not_lt.mpr c_13], rfl⟩
    · refine V_iconst (v := 1) X d_Tx_committedAbove_16 (by decide) ?_
      refine V_goto (tgt := 21) X d_Tx_committedAbove_17 (by decide) ?_
      refine V_zret X rfl (by first | rfl | exact nr_z (by assumption)) d_Tx_committedAbove_21 (by first | omega | decide | (dsimp only; first | done | omega)) (by first | omega | decide | (dsimp only; first | done | omega)) ?_
      exact ⟨_, rfl, by simp [b01, c_5, Int32.not_le.mp c_13], rfl⟩
-- Transaction.hasRead
theorem w_Tx_hasRead {K : Cx} {g : GG} {N0 : Nat → Prop} {h : Mp} {post : Option Value → Mp → Prop} {xp : String → Mp → Prop} {mc ms : Nat} (X : Fx K g N0 b_Tx_hasRead 3 "SnapshotStore$Transaction" { frames := 0, cells := mc, slots := ms, locals := 0 } (some .boolean) "hasRead" []) {a : Nat} {n : Int32} : ∀ (rs : LR), chain cRng h rs → post (some (.int (b01 (rread rs n)))) h → V K g N0 3 (RQ K g N0 post xp mc ms)  h 0 0 5 [some (va_rf (some a)), some (.int n), some (va_rf (ptr rs))] [] := by
  intro rs
  induction rs with
  | nil =>
    intro hv hp
    refine al_2 X d_Tx_hasRead_5 ?_
    refine V_ifnull (tgt := 35) X d_Tx_hasRead_6 (by decide) (fun c_6 => ?_) (fun b_6 c_6 => ?_)
    · refine V_iconst (v := 0) X d_Tx_hasRead_35 (by decide) ?_
      refine V_zret X rfl (by first | rfl | exact nr_z (by assumption)) d_Tx_hasRead_36 (by first | omega | decide | (dsimp only; first | done | omega)) (by first | omega | decide | (dsimp only; first | done | omega)) ?_
      exact hp
    · cases c_6
  | cons x t ih =>
    obtain ⟨b, lo, hi⟩ := x
    intro hv hp
    obtain ⟨hv1, hv2⟩ := hv
    dsimp only [ptr]
    refine al_2 X d_Tx_hasRead_5 ?_
    refine V_ifnull (tgt := 35) X d_Tx_hasRead_6 (by decide) (fun c_6 => ?_) (fun b_6 c_6 => ?_)
    · cases c_6
    · refine il_1 X d_Tx_hasRead_9 ?_
      refine al_2 X d_Tx_hasRead_10 ?_
      refine gf_Tx_58 X (by assumption) d_Tx_hasRead_11 ?_
      refine V_icmp_lt (tgt := 27) X d_Tx_hasRead_14 (by decide) (fun c_14 => ?_) (fun c_14 => ?_)
      · have e : rread ((b, lo, hi) :: t) n = rread t n := by simp [rread, rhit, Int32.not_le.mpr c_14]
        refine al_2 X d_Tx_hasRead_27 ?_
        refine gf_Tx_66 X (by assumption) d_Tx_hasRead_28 ?_
        refine as_2 X d_Tx_hasRead_31 rfl (by first | exact okp_n | exact okp_i | exact okp_r) ?_
        refine V_goto (tgt := 5) X d_Tx_hasRead_32 (by decide) ?_
        exact ih hv2 (by rwa [e] at hp)
      · refine il_1 X d_Tx_hasRead_17 ?_
        refine al_2 X d_Tx_hasRead_18 ?_
        refine gf_Tx_63 X (by assumption) d_Tx_hasRead_19 ?_
        refine V_icmp_gt (tgt := 27) X d_Tx_hasRead_22 (by decide) (fun c_22 => ?_) (fun c_22 => ?_)
        · have e : rread ((b, lo, hi) :: t) n = rread t n := by simp [rread, rhit, Int32.not_le.mpr c_22]
          refine al_2 X d_Tx_hasRead_27 ?_
          refine gf_Tx_66 X (by assumption) d_Tx_hasRead_28 ?_
          refine as_2 X d_Tx_hasRead_31 rfl (by first | exact okp_n | exact okp_i | exact okp_r) ?_
          refine V_goto (tgt := 5) X d_Tx_hasRead_32 (by decide) ?_
          exact ih hv2 (by rwa [e] at hp)
        · have e : rread ((b, lo, hi) :: t) n = true := by simp [rread, rhit, Int32.not_lt.mp c_14, Int32.not_lt.mp c_22]
          refine V_iconst (v := 1) X d_Tx_hasRead_25 (by decide) ?_
          refine V_zret X rfl (by first | rfl | exact nr_z (by assumption)) d_Tx_hasRead_26 (by first | omega | decide | (dsimp only; first | done | omega)) (by first | omega | decide | (dsimp only; first | done | omega)) ?_
          rwa [e] at hp
theorem c_Tx_hasRead (l : Launch) (g : GG) (N0 : Nat → Prop) (h : Mp) {a : Nat} {lv sn se sp ha : Int32} {lt pl : Option Nat} {rs : LR} (n : Int32) (hk : h a = some (cTx lv sn se sp ha lt (ptr rs) pl)) (hw : chain cRng h rs) : Ct l y_Tx_hasRead b_Tx_hasRead 3 (some .boolean) 0 0 0 0 g N0 h [va_rf (some a), .int n] (pI (fun r h' => r = b01 (rread rs n) ∧ h' = h)) nox := by
  refine Ct_of "SnapshotStore$Transaction" "hasRead" [some (va_rf (some a)), some (.int n), none] (by decide) rfl rfl (by simp [lg_sl, rf_cat, cat_i, cat_l]) (by simp [toL, lv_args, rf_cat, cat_i, cat_l]) (fun K hl X => ?_)
  refine al_0 X d_Tx_hasRead_0 ?_
  refine gf_Tx_54 X (by assumption) d_Tx_hasRead_1 ?_
  refine as_2 X d_Tx_hasRead_4 rfl (by first | exact okp_n | exact okp_i | exact okp_r) ?_
  exact w_Tx_hasRead X rs hw ⟨_, rfl, rfl, rfl⟩
-- Transaction.hasReadAnyOf
theorem w_Tx_hasReadAnyOf {K : Cx} {g : GG} {N0 : Nat → Prop} {h : Mp} {post : Option Value → Mp → Prop} {xp : String → Mp → Prop} {mc ms : Nat} (X : Fx K g N0 b_Tx_hasReadAnyOf 3 "SnapshotStore$Transaction" { frames := 1, cells := mc, slots := ms, locals := 22 } (some .boolean) "hasReadAnyOf" []) {a : Nat} {lv sn se sp ha : Int32} {lt pl q1 : Option Nat} {rs : LR} (hk : h a = some (cTx lv sn se sp ha lt (ptr rs) pl)) (hr : chain cRng h rs) : ∀ (ws : LW), chain cWr h ws → post (some (.int (b01 (rany rs ws)))) h → V K g N0 3 (RQ K g N0 post xp mc ms)  h 0 0 2 [some (va_rf (some a)), some (va_rf q1), some (va_rf (ptr ws))] [] := by
  intro ws
  induction ws with
  | nil =>
    intro hv hp
    refine al_2 X d_Tx_hasReadAnyOf_2 ?_
    refine V_ifnull (tgt := 27) X d_Tx_hasReadAnyOf_3 (by decide) (fun c_3 => ?_) (fun b_3 c_3 => ?_)
    · refine V_iconst (v := 0) X d_Tx_hasReadAnyOf_27 (by decide) ?_
      refine V_zret X rfl (by first | rfl | exact nr_z (by assumption)) d_Tx_hasReadAnyOf_28 (by first | omega | decide | (dsimp only; first | done | omega)) (by first | omega | decide | (dsimp only; first | done | omega)) ?_
      exact hp
    · cases c_3
  | cons x t ih =>
    obtain ⟨b, n, c, k⟩ := x
    intro hv hp
    obtain ⟨hv1, hv2⟩ := hv
    dsimp only [ptr]
    refine al_2 X d_Tx_hasReadAnyOf_2 ?_
    refine V_ifnull (tgt := 27) X d_Tx_hasReadAnyOf_3 (by decide) (fun c_3 => ?_) (fun b_3 c_3 => ?_)
    · cases c_3
    · refine al_0 X d_Tx_hasReadAnyOf_6 ?_
      refine al_2 X d_Tx_hasReadAnyOf_7 ?_
      refine gf_Tx_37 X (by assumption) d_Tx_hasReadAnyOf_8 ?_
      refine cl_Tx_50 X (c_Tx_hasRead _ g N0 h n hk hr) (by assumption) d_Tx_hasReadAnyOf_11 (by refine ⟨?_, ?_⟩ <;> first | decide | (dsimp only; first | done | omega)) (by first | decide | (simp only [List.map, rf_cat, cat_i, cat_l, List.sum_cons, List.sum_nil]; first | done | decide | omega)) ⟨(by first | omega | decide | (dsimp only; first | done | omega)), (by first | omega | decide | (dsimp only; first | done | omega))⟩ (fun _ _ z => z.elim) ?_
      rintro r h' ⟨rfl, rfl⟩
      refine V_if_eq (tgt := 19) X d_Tx_hasReadAnyOf_14 (by decide) (fun c_14 => ?_) (fun c_14 => ?_)
      · have e0 : rread rs n = false := by cases hc : rread rs n <;> simp_all [b01]
        have e : rany rs ((b, n, c, k) :: t) = rany rs t := by simp [rany, e0]
        refine al_2 X d_Tx_hasReadAnyOf_19 ?_
        refine gf_Tx_40 X (by assumption) d_Tx_hasReadAnyOf_20 ?_
        refine as_2 X d_Tx_hasReadAnyOf_23 rfl (by first | exact okp_n | exact okp_i | exact okp_r) ?_
        refine V_goto (tgt := 2) X d_Tx_hasReadAnyOf_24 (by decide) ?_
        exact ih hv2 (by rwa [e] at hp)
      · have e0 : rread rs n = true := by cases hc : rread rs n <;> simp_all [b01]
        have e : rany rs ((b, n, c, k) :: t) = true := by simp [rany, e0]
        refine V_iconst (v := 1) X d_Tx_hasReadAnyOf_17 (by decide) ?_
        refine V_zret X rfl (by first | rfl | exact nr_z (by assumption)) d_Tx_hasReadAnyOf_18 (by first | omega | decide | (dsimp only; first | done | omega)) (by first | omega | decide | (dsimp only; first | done | omega)) ?_
        rwa [e] at hp
theorem c_Tx_hasReadAnyOf (l : Launch) (g : GG) (N0 : Nat → Prop) (h : Mp) {a : Nat} {lv sn se sp ha : Int32} {lt pl : Option Nat} {rs : LR} {ws : LW} (hk : h a = some (cTx lv sn se sp ha lt (ptr rs) pl)) (hr : chain cRng h rs) (hw : chain cWr h ws) : Ct l y_Tx_hasReadAnyOf b_Tx_hasReadAnyOf 3 (some .boolean) 1 22 0 0 g N0 h [va_rf (some a), va_rf (ptr ws)] (pI (fun r h' => r = b01 (rany rs ws) ∧ h' = h)) nox := by
  refine Ct_of "SnapshotStore$Transaction" "hasReadAnyOf" [some (va_rf (some a)), some (va_rf (ptr ws)), none] (by decide) rfl rfl (by simp [lg_sl, rf_cat, cat_i, cat_l]) (by simp [toL, lv_args, rf_cat, cat_i, cat_l]) (fun K hl X => ?_)
  refine al_1 X d_Tx_hasReadAnyOf_0 ?_
  refine as_2 X d_Tx_hasReadAnyOf_1 rfl (by first | exact okp_n | exact okp_i | exact okp_r) ?_
  exact w_Tx_hasReadAnyOf X hk hr ws hw ⟨_, rfl, rfl, rfl⟩

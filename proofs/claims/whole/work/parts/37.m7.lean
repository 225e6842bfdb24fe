-- the reference: close, isHad, leastStamp, vacuum
abbrev RW : Type := Int32 × Int32 × Int32 × Int32
def vrow (ar : MA) (v : Nat) : RW := (ar 14 v, ar 15 v, ar 16 v, ar 17 v)
def vlist (ar : MA) (n : Nat) : List RW := (List.range n).map (vrow ar)
def kpI (ar : MA) (v : Nat) : List Nat := (List.range v).filter (fun i => decide (ar 18 i = 0))
theorem vlist_s (ar : MA) (n : Nat) : vlist ar (n + 1) = vlist ar n ++ [vrow ar n] := by simp [vlist, List.range_succ]
theorem kpI_s (ar : MA) (v : Nat) : kpI ar (v + 1) = if ar 18 v = 0 then kpI ar v ++ [v] else kpI ar v := by
  rw [kpI, List.range_succ, List.filter_append]
  by_cases e : ar 18 v = 0
  · simp [kpI, e]
  · simp [kpI, e]
theorem vlist_len (ar : MA) (n : Nat) : (vlist ar n).length = n := by simp [vlist]
theorem nI_sub {n m : Nat} (h : m ≤ n) : nI n - nI m = nI (n - m) := by
  have e : nI n = nI (n - m) + nI m := by rw [nI_add]; congr 1; omega
  rw [e, Int32.add_sub_cancel]
def mCl (ar : MA) (j v : Nat) : MA := aU (aU (aU (aU ar 14 (upd (ar 14) j (ar 14 v))) 15 (upd (ar 15) j (ar 15 v))) 16 (upd (ar 16) j (ar 16 v))) 17 (upd (ar 17) j (ar 17 v))
theorem mCl_k {ar : MA} {j v k : Nat} (h : k < 14 ∨ 17 < k) : mCl ar j v k = ar k := by
  rw [mCl, aU_n _ _ (by omega), aU_n _ _ (by omega), aU_n _ _ (by omega), aU_n _ _ (by omega)]
theorem mCl_r (ar : MA) (j v i : Nat) : vrow (mCl ar j v) i = if i = j then vrow ar v else vrow ar i := by
  have e14 : mCl ar j v 14 = upd (ar 14) j (ar 14 v) := by simp (decide := true) only [mCl, aU_s, aU_n]
  have e15 : mCl ar j v 15 = upd (ar 15) j (ar 15 v) := by simp (decide := true) only [mCl, aU_s, aU_n]
  have e16 : mCl ar j v 16 = upd (ar 16) j (ar 16 v) := by simp (decide := true) only [mCl, aU_s, aU_n]
  have e17 : mCl ar j v 17 = upd (ar 17) j (ar 17 v) := by simp (decide := true) only [mCl, aU_s, aU_n]
  by_cases e : i = j
  · subst e
    rw [if_pos rfl, vrow, e14, e15, e16, e17, pk_us, pk_us, pk_us, pk_us, vrow]
  · rw [if_neg e, vrow, e14, e15, e16, e17, pk_un e, pk_un e, pk_un e, pk_un e, vrow]
theorem anyN_le {p : Nat → Bool} {a b : Nat} (h : a ≤ b) (ha : anyN p a = true) : anyN p b = true := by
  induction b with
  | zero => rw [show a = 0 by omega] at ha; exact ha
  | succ b ih =>
    by_cases e : a = b + 1
    · rw [← e]; exact ha
    · rw [anyN, ih (by omega)]; rfl
def clI (ar ar1 : MA) (j v : Nat) : Prop := (∀ k, k < 14 ∨ 17 < k → ar1 k = ar k) ∧ (∀ i, v ≤ i → vrow ar1 i = vrow ar i) ∧ j ≤ v ∧ vlist ar1 j = (kpI ar v).map (vrow ar)
theorem clI.k {ar ar1 : MA} {j v : Nat} (c : clI ar ar1 j v) : ∀ k, k < 14 ∨ 17 < k → ar1 k = ar k := c.1
theorem clI.r {ar ar1 : MA} {j v : Nat} (c : clI ar ar1 j v) : ∀ i, v ≤ i → vrow ar1 i = vrow ar i := c.2.1
theorem clI.le {ar ar1 : MA} {j v : Nat} (c : clI ar ar1 j v) : j ≤ v := c.2.2.1
theorem clI.l {ar ar1 : MA} {j v : Nat} (c : clI ar ar1 j v) : vlist ar1 j = (kpI ar v).map (vrow ar) := c.2.2.2
theorem clI_skip {ar ar1 : MA} {j v : Nat} (c : clI ar ar1 j v) (h : ¬ ar 18 v = 0) : clI ar ar1 j (v + 1) := ⟨c.k, fun i hi => c.r i (by omega), by have := c.le; omega, by rw [kpI_s, if_neg h]; exact c.l⟩
theorem clI_take {ar ar1 : MA} {j v : Nat} (c : clI ar ar1 j v) (h : ar 18 v = 0) : clI ar (mCl ar1 j v) (j + 1) (v + 1) := by
  have hle := c.le
  refine ⟨fun k hk => by rw [mCl_k hk]; exact c.k k hk, fun i hi => by rw [mCl_r, if_neg (by omega)]; exact c.r i (by omega), by omega, ?_⟩
  rw [kpI_s, if_pos h, List.map_append, ← c.l, vlist_s, mCl_r, if_pos rfl, c.r v (Nat.le_refl _)]
  congr 1
  refine List.map_congr_left (fun i hi => ?_)
  have := List.mem_range.mp hi
  rw [mCl_r, if_neg (by omega)]
theorem w_M_close {K : Cx} {g : GG} {N0 : Nat → Prop} {Q : State → Prop} {h : Mp} {mc ms : Nat} (X : Fx K g N0 b_M_close 3 "SnapshotStoreModel" { frames := 0, cells := mc, slots := ms, locals := 0 } (some .int) "close" []) {m : Nat} {ad : Nat → Nat} {iv : MI} {ar : MA} {n : Nat} (hn : iv 4 = nI n) (hn2 : n ≤ 3000) (h17 : ∀ v, v < n → ar 17 v = 0 ∨ ar 17 v = 1) : ∀ (k v j : Nat) (ar1 : MA) (h : Mp), v + k = n → clI ar ar1 j v → MW g m ad h iv ar1 → (∀ h ar1 j, clI ar ar1 j n → MW g m ad h iv ar1 → V K g N0 3 Q  h 0 0 78 [some (va_rf (some m)), some (.int (nI j)), some (.int (nI n))] []) → V K g N0 3 Q  h 0 0 4 [some (va_rf (some m)), some (.int (nI j)), some (.int (nI v))] [] := by
  intro k
  induction k with
  | zero =>
    intro v j ar1 h hv c w hp
    have hv : v = n := by omega
    subst hv
    refine il_2 X d_M_close_4 ?_
    refine al_0 X d_M_close_5 ?_
    refine gm_80 X w d_M_close_6 ?_
    rw [hn]
    refine V_icmp_ge (tgt := 78) X d_M_close_9 (by decide) (fun c_9 => ?_) (fun c_9 => ?_)
    · exact hp h ar1 j c w
    · exact absurd (Int32.le_refl _) c_9
  | succ k ih =>
    intro v j ar1 h hv c w hp
    have hle := c.le
    have e18 : ar1 18 = ar 18 := c.k 18 (Or.inr (by decide))
    refine il_2 X d_M_close_4 ?_
    refine al_0 X d_M_close_5 ?_
    refine gm_80 X w d_M_close_6 ?_
    rw [hn]
    refine V_icmp_ge (tgt := 78) X d_M_close_9 (by decide) (fun c_9 => ?_) (fun c_9 => ?_)
    · exact absurd c_9 (nI_ge (by omega) (by omega))
    · refine al_0 X d_M_close_12 ?_
      refine gm_66 X w d_M_close_13 ?_
      refine il_2 X d_M_close_16 ?_
      refine am_z X w (k := 18) (by decide) rfl (show _ < 3000 by omega) (by decide) d_M_close_17 ?_
      refine V_if_ne (tgt := 72) X d_M_close_18 (by decide) (fun c_18 => ?_) (fun c_18 => ?_)
      · rw [e18] at c_18
        refine ic_2 (v := (nI (v+1))) X d_M_close_72 (nI_1 v) rfl (by first | exact okp_n | exact okp_i | exact okp_r) ?_
        refine V_goto (tgt := 4) X d_M_close_75 (by decide) ?_
        exact ih (v + 1) j ar1 h (by omega) (clI_skip c c_18) w hp
      · rw [e18] at c_18
        have z17 : ∀ f1 f2 f3, (aU (aU (aU ar1 14 f1) 15 f2) 16 f3) 17 v = 0 ∨ (aU (aU (aU ar1 14 f1) 15 f2) 16 f3) 17 v = 1 := fun f1 f2 f3 => by
          rw [aU_n _ _ (by decide), aU_n _ _ (by decide), aU_n _ _ (by decide)]
          have := congrArg (fun (r : RW) => r.2.2.2) (c.r v (Nat.le_refl _))
          dsimp only [vrow] at this
          rw [this]; exact h17 v (by omega)
        refine al_0 X d_M_close_21 ?_
        refine gm_54 X w d_M_close_22 ?_
        refine il_1 X d_M_close_25 ?_
        refine al_0 X d_M_close_26 ?_
        refine gm_54 X w d_M_close_27 ?_
        refine il_2 X d_M_close_30 ?_
        refine am_i X w (k := 14) (by decide) rfl (show _ < 3000 by omega) (by decide) d_M_close_31 ?_
        refine sm_i X w (k := 14) (by decide) rfl (show _ < 3000 by omega) (by decide) d_M_close_32 (fun h w => ?_)
        refine al_0 X d_M_close_33 ?_
        refine gm_57 X w d_M_close_34 ?_
        refine il_1 X d_M_close_37 ?_
        refine al_0 X d_M_close_38 ?_
        refine gm_57 X w d_M_close_39 ?_
        refine il_2 X d_M_close_42 ?_
        refine am_i X w (k := 15) (by decide) rfl (show _ < 3000 by omega) (by decide) d_M_close_43 ?_
        refine sm_i X w (k := 15) (by decide) rfl (show _ < 3000 by omega) (by decide) d_M_close_44 (fun h w => ?_)
        refine al_0 X d_M_close_45 ?_
        refine gm_60 X w d_M_close_46 ?_
        refine il_1 X d_M_close_49 ?_
        refine al_0 X d_M_close_50 ?_
        refine gm_60 X w d_M_close_51 ?_
        refine il_2 X d_M_close_54 ?_
        refine am_i X w (k := 16) (by decide) rfl (show _ < 3000 by omega) (by decide) d_M_close_55 ?_
        refine sm_i X w (k := 16) (by decide) rfl (show _ < 3000 by omega) (by decide) d_M_close_56 (fun h w => ?_)
        refine al_0 X d_M_close_57 ?_
        refine gm_63 X w d_M_close_58 ?_
        refine il_1 X d_M_close_61 ?_
        refine al_0 X d_M_close_62 ?_
        refine gm_63 X w d_M_close_63 ?_
        refine il_2 X d_M_close_66 ?_
        refine am_z X w (k := 17) (by decide) rfl (show _ < 3000 by omega) (by decide) d_M_close_67 ?_
        refine sm_z X (z17 _ _ _) w (k := 17) (by decide) rfl (show _ < 3000 by omega) (by decide) d_M_close_68 (fun h w => ?_)
        refine ic_1 (v := (nI (j+1))) X d_M_close_69 (nI_1 j) rfl (by first | exact okp_n | exact okp_i | exact okp_r) ?_
        refine ic_2 (v := (nI (v+1))) X d_M_close_72 (nI_1 v) rfl (by first | exact okp_n | exact okp_i | exact okp_r) ?_
        refine V_goto (tgt := 4) X d_M_close_75 (by decide) ?_
        simp (decide := true) only [aU_n] at w
        exact ih (v + 1) (j + 1) _ h (by omega) (clI_take c c_18) w hp
theorem c_M_close (l : Launch) (g : GG) (N0 : Nat → Prop) (h : Mp) {m : Nat} {ad : Nat → Nat} {iv : MI} {ar : MA} {n : Nat} (hn : iv 4 = nI n) (hn2 : n ≤ 3000) (h17 : ∀ v, v < n → ar 17 v = 0 ∨ ar 17 v = 1) (w : MW g m ad h iv ar) : Ct l y_M_close b_M_close 3 (some .int) 0 0 0 0 g N0 h [va_rf (some m)] (pI (fun r h' => ∃ ar1 j, clI ar ar1 j n ∧ r = nI (n - j) ∧ MW g m ad h' (iU iv 4 (nI j)) ar1)) nox := by
  refine Ct_of "SnapshotStoreModel" "close" [some (va_rf (some m)), none, none] (by decide) rfl rfl (by simp [lg_sl, rf_cat, cat_i, cat_l]) (by simp [toL, lv_args, rf_cat, cat_i, cat_l]) (fun K hl X => ?_)
  refine V_iconst (v := 0) X d_M_close_0 (by decide) ?_
  refine is_1 X d_M_close_1 rfl (by first | exact okp_n | exact okp_i | exact okp_r) ?_
  refine V_iconst (v := 0) X d_M_close_2 (by decide) ?_
  refine is_2 X d_M_close_3 rfl (by first | exact okp_n | exact okp_i | exact okp_r) ?_
  refine w_M_close (h := h) X hn hn2 h17 n 0 0 ar h (by omega) ⟨fun _ _ => rfl, fun _ _ => rfl, Nat.le_refl _, rfl⟩ w (fun h ar1 j c w => ?_)
  refine al_0 X d_M_close_78 ?_
  refine gm_80 X w d_M_close_79 ?_
  rw [hn]
  refine il_1 X d_M_close_82 ?_
  refine V_isub X d_M_close_83 ?_
  rw [nI_sub c.le]
  refine is_2 X d_M_close_84 rfl (by first | exact okp_n | exact okp_i | exact okp_r) ?_
  refine al_0 X d_M_close_85 ?_
  refine il_1 X d_M_close_86 ?_
  refine pm_80 X w d_M_close_87 (fun h w => ?_)
  refine il_2 X d_M_close_90 ?_
  refine V_iret X rfl d_M_close_91 (by first | omega | decide | (dsimp only; first | done | omega)) (by first | omega | decide | (dsimp only; first | done | omega)) ?_
  exact ⟨_, rfl, ar1, j, c, rfl, w⟩
-- isHad
theorem ixI_eq {o : Option Nat} {v : Nat} (h : ∀ i, o = some i → i < 2 ^ 31) (hv : v < 2 ^ 31) : ixI o = nI v ↔ o = some v := by
  cases o with
  | none => exact ⟨fun z => absurd z (by intro q; have := nI_pos hv; rw [← q] at this; exact this (show (-1 : Int32) < 0 by decide)), fun z => by cases z⟩
  | some i => exact ⟨fun z => by rw [(nI_eq (h i rfl) hv).mp z], fun z => by cases z; rfl⟩
def pHad (ar : MA) (nv v t : Nat) : Bool := decide (ar 3 t = 0) && decide (vAt ar nv (ar 14 v) (ar 1 t) = some v)
def hadI (iv : MI) (ar : MA) (n nv v : Nat) : Bool := (decide (vAt ar nv (ar 14 v) (iv 1) = some v) || decide (vAt ar nv (ar 14 v) (iv 2) = some v)) || anyN (pHad ar nv v) n
theorem w_M_isHad {K : Cx} {g : GG} {N0 : Nat → Prop} {h : Mp} {post : Option Value → Mp → Prop} {xp : String → Mp → Prop} {mc ms : Nat} (X : Fx K g N0 b_M_isHad 4 "SnapshotStoreModel" { frames := 1, cells := mc, slots := ms, locals := 25 } (some .boolean) "isHad" []) {m : Nat} {ad : Nat → Nat} {iv : MI} {ar : MA} {n nv v : Nat} {x0 : Bool} (hn : iv 3 = nI n) (hn2 : n ≤ 120) (hv : iv 4 = nI nv) (hv2 : nv ≤ 3000) (hr : vrise ar nv) (hvn : v < nv) (w : MW g m ad h iv ar) (hp : post (some (.int (b01 (x0 || anyN (pHad ar nv v) n)))) h) : ∀ (k t : Nat), t + k = n → V K g N0 4 (RQ K g N0 post xp mc ms)  h 0 0 44 [some (va_rf (some m)), some (.int (nI v)), some (.int (b01 (x0 || anyN (pHad ar nv v) t))), some (.int (nI t))] [] := by
  intro k
  induction k with
  | zero =>
    intro t ht
    have ht : t = n := by omega
    subst ht
    refine il_3 X d_M_isHad_44 ?_
    refine al_0 X d_M_isHad_45 ?_
    refine gm_73 X w d_M_isHad_46 ?_
    rw [hn]
    refine V_icmp_ge (tgt := 97) X d_M_isHad_49 (by decide) (fun c_49 => ?_) (fun c_49 => ?_)
    · refine il_2 X d_M_isHad_97 ?_
      refine V_zret X rfl (nr_z (b01_or _)) d_M_isHad_98 (by omega) (by omega) hp
    · exact absurd (Int32.le_refl _) c_49
  | succ k ih =>
    intro t ht
    refine il_3 X d_M_isHad_44 ?_
    refine al_0 X d_M_isHad_45 ?_
    refine gm_73 X w d_M_isHad_46 ?_
    rw [hn]
    refine V_icmp_ge (tgt := 97) X d_M_isHad_49 (by decide) (fun c_49 => ?_) (fun c_49 => ?_)
    · exact absurd c_49 (nI_ge (by omega) (by omega))
    · refine il_2 X d_M_isHad_52 ?_
      refine V_if_ne (tgt := 97) X d_M_isHad_53 (by decide) (fun c_53 => ?_) (fun c_53 => ?_)
      · have e := b01_t c_53
        have e2 : (x0 || anyN (pHad ar nv v) n) = true := by
          rcases Bool.or_eq_true _ _ |>.mp e with q | q
          · rw [q]; rfl
          · rw [anyN_le (show t ≤ n by omega) q]; exact Bool.or_true _
        refine il_2 X d_M_isHad_97 ?_
        refine V_zret X rfl (nr_z (b01_or _)) d_M_isHad_98 (by omega) (by omega) ?_
        rw [e]; rw [e2] at hp; exact hp
      · have e : (x0 || anyN (pHad ar nv v) t) = false := b01_f c_53
        have ex := Bool.or_eq_false_iff.mp e
        have es : (x0 || anyN (pHad ar nv v) (t + 1)) = pHad ar nv v t := by rw [anyN, ex.1, ex.2]; rfl
        have fin : ∀ b : Bool, b = pHad ar nv v t → V K g N0 4 (RQ K g N0 post xp mc ms) h 0 0 90 [some (va_rf (some m)), some (.int (nI v)), some (.int (b01 (x0 || anyN (pHad ar nv v) t))), some (.int (nI t))] [.int (b01 b)] := by
          intro b hb
          subst hb
          refine is_2 X d_M_isHad_90 rfl (by first | exact okp_n | exact okp_i | exact okp_r) ?_
          refine ic_3 (v := (nI (t+1))) X d_M_isHad_91 (nI_1 t) rfl (by first | exact okp_n | exact okp_i | exact okp_r) ?_
          refine V_goto (tgt := 44) X d_M_isHad_94 (by decide) ?_
          rw [← es]
          exact ih (t + 1) (by omega)
        refine al_0 X d_M_isHad_56 ?_
        refine gm_20 X w d_M_isHad_57 ?_
        refine il_3 X d_M_isHad_60 ?_
        refine am_i X w (k := 3) (by decide) rfl (show _ < 120 by omega) (by decide) d_M_isHad_61 ?_
        refine V_if_ne (tgt := 89) X d_M_isHad_62 (by decide) (fun c_62 => ?_) (fun c_62 => ?_)
        · have f := fin false (by rw [pHad, decide_eq_false c_62]; rfl)
          refine V_iconst (v := 0) X d_M_isHad_89 (by decide) ?_
          exact f
        · refine al_0 X d_M_isHad_65 ?_
          refine al_0 X d_M_isHad_66 ?_
          refine gm_54 X w d_M_isHad_67 ?_
          refine il_1 X d_M_isHad_70 ?_
          refine am_i X w (k := 14) (by decide) rfl (show _ < 3000 by omega) (by decide) d_M_isHad_71 ?_
          refine al_0 X d_M_isHad_72 ?_
          refine gm_13 X w d_M_isHad_73 ?_
          refine il_3 X d_M_isHad_76 ?_
          refine am_i X w (k := 1) (by decide) rfl (show _ < 120 by omega) (by decide) d_M_isHad_77 ?_
          refine cl_M_83 X (c_M_versionAt _ g N0 h (ar 14 v) (ar 1 t) hv hv2 hr w) w.1 d_M_isHad_78 (by refine ⟨?_, ?_⟩ <;> first | decide | (dsimp only; first | done | omega)) (by first | decide | (simp only [List.map, rf_cat, cat_i, cat_l, List.sum_cons, List.sum_nil]; first | done | decide | omega)) ⟨(by first | omega | decide | (dsimp only; first | done | omega)), (by first | omega | decide | (dsimp only; first | done | omega))⟩ (fun _ _ z => z.elim) ?_
          rintro r h ⟨rfl, rfl⟩
          have q := ixI_eq (o := vAt ar nv (ar 14 v) (ar 1 t)) (v := v) (fun i hi => by have := (lix_lt hi).1; omega) (by omega)
          refine il_1 X d_M_isHad_81 ?_
          refine V_icmp_ne (tgt := 89) X d_M_isHad_82 (by decide) (fun c_82 => ?_) (fun c_82 => ?_)
          · have f := fin false (by rw [pHad, decide_eq_true c_62, decide_eq_false (fun z => c_82 (q.mpr z))]; rfl)
            refine V_iconst (v := 0) X d_M_isHad_89 (by decide) ?_
            exact f
          · have f := fin true (by rw [pHad, decide_eq_true c_62, decide_eq_true (q.mp c_82)]; rfl)
            refine V_iconst (v := 1) X d_M_isHad_85 (by decide) ?_
            refine V_goto (tgt := 90) X d_M_isHad_86 (by decide) ?_
            exact f
theorem c_M_isHad (l : Launch) (g : GG) (N0 : Nat → Prop) (h : Mp) {m : Nat} {ad : Nat → Nat} {iv : MI} {ar : MA} {n nv v : Nat} (hn : iv 3 = nI n) (hn2 : n ≤ 120) (hv : iv 4 = nI nv) (hv2 : nv ≤ 3000) (hr : vrise ar nv) (hvn : v < nv) (w : MW g m ad h iv ar) : Ct l y_M_isHad b_M_isHad 4 (some .boolean) 1 25 0 0 g N0 h [va_rf (some m), .int (nI v)] (pI (fun r h' => r = b01 (hadI iv ar n nv v) ∧ h' = h)) nox := by
  refine Ct_of "SnapshotStoreModel" "isHad" [some (va_rf (some m)), some (.int (nI v)), none, none] (by decide) rfl rfl (by simp [lg_sl, rf_cat, cat_i, cat_l]) (by simp [toL, lv_args, rf_cat, cat_i, cat_l]) (fun K hl X => ?_)
  have fin : ∀ (x0 : Bool), x0 = (decide (vAt ar nv (ar 14 v) (iv 1) = some v) || decide (vAt ar nv (ar 14 v) (iv 2) = some v)) → V K g N0 4 (RQ K g N0 (pI (fun r h' => r = b01 (hadI iv ar n nv v) ∧ h' = h)) nox 0 0) h 0 0 41 [some (va_rf (some m)), some (.int (nI v)), none, none] [.int (b01 x0)] := by
    intro x0 hx
    have f := w_M_isHad (xp := nox) (x0 := x0) X hn hn2 hv hv2 hr hvn w (show pI (fun r h' => r = b01 (hadI iv ar n nv v) ∧ h' = h) _ h from ⟨_, rfl, by rw [hadI, ← hx], rfl⟩) n 0 (by omega)
    refine is_2 X d_M_isHad_41 rfl (by first | exact okp_n | exact okp_i | exact okp_r) ?_
    refine V_iconst (v := 0) X d_M_isHad_42 (by decide) ?_
    refine is_3 X d_M_isHad_43 rfl (by first | exact okp_n | exact okp_i | exact okp_r) ?_
    rw [show (x0 || anyN (pHad ar nv v) 0) = x0 from Bool.or_false _] at f
    exact f
  have q := fun s => ixI_eq (o := vAt ar nv (ar 14 v) s) (v := v) (fun i hi => by have := (lix_lt hi).1; omega) (by omega)
  refine al_0 X d_M_isHad_0 ?_
  refine al_0 X d_M_isHad_1 ?_
  refine gm_54 X w d_M_isHad_2 ?_
  refine il_1 X d_M_isHad_5 ?_
  refine am_i X w (k := 14) (by decide) rfl (show _ < 3000 by omega) (by decide) d_M_isHad_6 ?_
  refine al_0 X d_M_isHad_7 ?_
  refine gm_106 X w d_M_isHad_8 ?_
  refine cl_M_83 X (c_M_versionAt _ g N0 h (ar 14 v) (iv 1) hv hv2 hr w) w.1 d_M_isHad_11 (by refine ⟨?_, ?_⟩ <;> first | decide | (dsimp only; first | done | omega)) (by first | decide | (simp only [List.map, rf_cat, cat_i, cat_l, List.sum_cons, List.sum_nil]; first | done | decide | omega)) ⟨(by first | omega | decide | (dsimp only; first | done | omega)), (by first | omega | decide | (dsimp only; first | done | omega))⟩ (fun _ _ z => z.elim) ?_
  rintro r h ⟨rfl, rfl⟩
  refine il_1 X d_M_isHad_14 ?_
  refine V_icmp_eq (tgt := 36) X d_M_isHad_15 (by decide) (fun c_15 => ?_) (fun c_15 => ?_)
  · have f := fin true (by rw [decide_eq_true ((q _).mp c_15)]; rfl)
    refine V_iconst (v := 1) X d_M_isHad_36 (by decide) ?_
    refine V_goto (tgt := 41) X d_M_isHad_37 (by decide) ?_
    exact f
  · refine al_0 X d_M_isHad_18 ?_
    refine al_0 X d_M_isHad_19 ?_
    refine gm_54 X w d_M_isHad_20 ?_
    refine il_1 X d_M_isHad_23 ?_
    refine am_i X w (k := 14) (by decide) rfl (show _ < 3000 by omega) (by decide) d_M_isHad_24 ?_
    refine al_0 X d_M_isHad_25 ?_
    refine gm_145 X w d_M_isHad_26 ?_
    refine cl_M_83 X (c_M_versionAt _ g N0 h (ar 14 v) (iv 2) hv hv2 hr w) w.1 d_M_isHad_29 (by refine ⟨?_, ?_⟩ <;> first | decide | (dsimp only; first | done | omega)) (by first | decide | (simp only [List.map, rf_cat, cat_i, cat_l, List.sum_cons, List.sum_nil]; first | done | decide | omega)) ⟨(by first | omega | decide | (dsimp only; first | done | omega)), (by first | omega | decide | (dsimp only; first | done | omega))⟩ (fun _ _ z => z.elim) ?_
    rintro r h ⟨rfl, rfl⟩
    refine il_1 X d_M_isHad_32 ?_
    refine V_icmp_ne (tgt := 40) X d_M_isHad_33 (by decide) (fun c_33 => ?_) (fun c_33 => ?_)
    · have f := fin false (by rw [decide_eq_false (fun z => c_15 ((q _).mpr z)), decide_eq_false (fun z => c_33 ((q _).mpr z))]; rfl)
      refine V_iconst (v := 0) X d_M_isHad_40 (by decide) ?_
      exact f
    · have f := fin true (by rw [decide_eq_true ((q _).mp c_33)]; exact (Bool.or_true _).symm)
      refine V_iconst (v := 1) X d_M_isHad_36 (by decide) ?_
      refine V_goto (tgt := 41) X d_M_isHad_37 (by decide) ?_
      exact f
-- leastStamp
def lstB (iv : MI) (ar : MA) (n : Nat) (x : Int32) : Bool := (decide (x ≤ iv 1) && decide (x ≤ iv 2)) && !anyN (fun u => decide (ar 3 u = 0) && decide (ar 1 u < x)) n
theorem w_M_leastStamp {K : Cx} {g : GG} {N0 : Nat → Prop} {h : Mp} {post : Option Value → Mp → Prop} {xp : String → Mp → Prop} {mc ms : Nat} (X : Fx K g N0 b_M_leastStamp 3 "SnapshotStoreModel" { frames := 0, cells := mc, slots := ms, locals := 0 } (some .int) "leastStamp" []) {m : Nat} {ad : Nat → Nat} {iv : MI} {ar : MA} {n : Nat} (hn : iv 3 = nI n) (hn2 : n ≤ 120) (w : MW g m ad h iv ar) (hp : ∀ r, (∀ x : Int32, decide (x ≤ r) = lstB iv ar n x) → post (some (.int r)) h) : ∀ (k t : Nat) (r : Int32), t + k = n → (∀ x : Int32, decide (x ≤ r) = lstB iv ar t x) → V K g N0 3 (RQ K g N0 post xp mc ms)  h 0 0 25 [some (va_rf (some m)), some (.int r), some (.int (nI t))] [] := by
  intro k
  induction k with
  | zero =>
    intro t r ht hr
    have ht : t = n := by omega
    subst ht
    refine il_2 X d_M_leastStamp_25 ?_
    refine al_0 X d_M_leastStamp_26 ?_
    refine gm_73 X w d_M_leastStamp_27 ?_
    rw [hn]
    refine V_icmp_ge (tgt := 69) X d_M_leastStamp_30 (by decide) (fun c_30 => ?_) (fun c_30 => ?_)
    · refine il_1 X d_M_leastStamp_69 ?_
      refine V_iret X rfl d_M_leastStamp_70 (by first | omega | decide | (dsimp only; first | done | omega)) (by first | omega | decide | (dsimp only; first | done | omega)) ?_
      exact hp r hr
    · exact absurd (Int32.le_refl _) c_30
  | succ k ih =>
    intro t r ht hr
    have es : ∀ x, lstB iv ar (t + 1) x = (lstB iv ar t x && !(decide (ar 3 t = 0) && decide (ar 1 t < x))) := fun x => by
      simp only [lstB, anyN, Bool.not_or, Bool.and_assoc]
    have fin : ∀ r', (∀ x : Int32, decide (x ≤ r') = lstB iv ar (t + 1) x) → V K g N0 3 (RQ K g N0 post xp mc ms) h 0 0 62 [some (va_rf (some m)), some (.int r), some (.int (nI t))] [.int r'] := by
      intro r' hr'
      refine is_1 X d_M_leastStamp_62 rfl (by first | exact okp_n | exact okp_i | exact okp_r) ?_
      refine ic_2 (v := (nI (t+1))) X d_M_leastStamp_63 (nI_1 t) rfl (by first | exact okp_n | exact okp_i | exact okp_r) ?_
      refine V_goto (tgt := 25) X d_M_leastStamp_66 (by decide) ?_
      exact ih (t + 1) r' (by omega) hr'
    refine il_2 X d_M_leastStamp_25 ?_
    refine al_0 X d_M_leastStamp_26 ?_
    refine gm_73 X w d_M_leastStamp_27 ?_
    rw [hn]
    refine V_icmp_ge (tgt := 69) X d_M_leastStamp_30 (by decide) (fun c_30 => ?_) (fun c_30 => ?_)
    · exact absurd c_30 (nI_ge (by omega) (by omega))
    · refine al_0 X d_M_leastStamp_33 ?_
      refine gm_20 X w d_M_leastStamp_34 ?_
      refine il_2 X d_M_leastStamp_37 ?_
      refine am_i X w (k := 3) (by decide) rfl (show _ < 120 by omega) (by decide) d_M_leastStamp_38 ?_
      refine V_if_ne (tgt := 61) X d_M_leastStamp_39 (by decide) (fun c_39 => ?_) (fun c_39 => ?_)
      · have f := fin r (fun x => by rw [es, decide_eq_false c_39, ← hr x]; simp)
        refine il_1 X d_M_leastStamp_61 ?_
        exact f
      · refine al_0 X d_M_leastStamp_42 ?_
        refine gm_13 X w d_M_leastStamp_43 ?_
        refine il_2 X d_M_leastStamp_46 ?_
        refine am_i X w (k := 1) (by decide) rfl (show _ < 120 by omega) (by decide) d_M_leastStamp_47 ?_
        refine il_1 X d_M_leastStamp_48 ?_
        refine V_icmp_ge (tgt := 61) X d_M_leastStamp_49 (by decide) (fun c_49 => ?_) (fun c_49 => ?_)
        · have f := fin r (fun x => by
            rw [es, decide_eq_true c_39, ← hr x, Bool.true_and]
            by_cases e : x ≤ r
            · rw [decide_eq_true e, decide_eq_false (fun z => absurd z (Int32.not_lt.mpr (Int32.le_trans e c_49)))]; rfl
            · rw [decide_eq_false e]; rfl)
          refine il_1 X d_M_leastStamp_61 ?_
          exact f
        · have f := fin (ar 1 t) (fun x => by
            rw [es, decide_eq_true c_39, ← hr x, Bool.true_and]
            have hlt := Int32.not_le.mp c_49
            by_cases e : x ≤ ar 1 t
            · rw [decide_eq_true e, decide_eq_true (Int32.le_trans e (Int32.le_of_lt hlt)), decide_eq_false (Int32.not_lt.mpr e)]; rfl
            · rw [decide_eq_false e, decide_eq_true (Int32.not_le.mp e)]; simp)
          refine al_0 X d_M_leastStamp_52 ?_
          refine gm_13 X w d_M_leastStamp_53 ?_
          refine il_2 X d_M_leastStamp_56 ?_
          refine am_i X w (k := 1) (by decide) rfl (show _ < 120 by omega) (by decide) d_M_leastStamp_57 ?_
          refine V_goto (tgt := 62) X d_M_leastStamp_58 (by decide) ?_
          exact f
theorem c_M_leastStamp (l : Launch) (g : GG) (N0 : Nat → Prop) (h : Mp) {m : Nat} {ad : Nat → Nat} {iv : MI} {ar : MA} {n : Nat} (hn : iv 3 = nI n) (hn2 : n ≤ 120) (w : MW g m ad h iv ar) : Ct l y_M_leastStamp b_M_leastStamp 3 (some .int) 0 0 0 0 g N0 h [va_rf (some m)] (pI (fun r h' => (∀ x : Int32, decide (x ≤ r) = lstB iv ar n x) ∧ h' = h)) nox := by
  refine Ct_of "SnapshotStoreModel" "leastStamp" [some (va_rf (some m)), none, none] (by decide) rfl rfl (by simp [lg_sl, rf_cat, cat_i, cat_l]) (by simp [toL, lv_args, rf_cat, cat_i, cat_l]) (fun K hl X => ?_)
  have fin : ∀ r, (∀ x : Int32, decide (x ≤ r) = (decide (x ≤ iv 1) && decide (x ≤ iv 2))) → V K g N0 3 (RQ K g N0 (pI (fun r h' => (∀ x : Int32, decide (x ≤ r) = lstB iv ar n x) ∧ h' = h)) nox 0 0) h 0 0 22 [some (va_rf (some m)), none, none] [.int r] := by
    intro r hr
    refine is_1 X d_M_leastStamp_22 rfl (by first | exact okp_n | exact okp_i | exact okp_r) ?_
    refine V_iconst (v := 0) X d_M_leastStamp_23 (by decide) ?_
    refine is_2 X d_M_leastStamp_24 rfl (by first | exact okp_n | exact okp_i | exact okp_r) ?_
    exact w_M_leastStamp X hn hn2 w (fun r hr => ⟨_, rfl, hr, rfl⟩) n 0 r (by omega) (fun x => by rw [hr x, lstB]; exact (Bool.and_true _).symm)
  refine al_0 X d_M_leastStamp_0 ?_
  refine gm_145 X w d_M_leastStamp_1 ?_
  refine al_0 X d_M_leastStamp_4 ?_
  refine gm_106 X w d_M_leastStamp_5 ?_
  refine V_icmp_ge (tgt := 18) X d_M_leastStamp_8 (by decide) (fun c_8 => ?_) (fun c_8 => ?_)
  · have f := fin (iv 1) (fun x => by
      by_cases e : x ≤ iv 1
      · rw [decide_eq_true e, decide_eq_true (Int32.le_trans e c_8)]; rfl
      · rw [decide_eq_false e]; rfl)
    refine al_0 X d_M_leastStamp_18 ?_
    refine gm_106 X w d_M_leastStamp_19 ?_
    exact f
  · have f := fin (iv 2) (fun x => by
      have hlt := Int32.not_le.mp c_8
      by_cases e : x ≤ iv 2
      · rw [decide_eq_true e, decide_eq_true (Int32.le_trans e (Int32.le_of_lt hlt))]; rfl
      · rw [decide_eq_false e, Bool.and_false])
    refine al_0 X d_M_leastStamp_11 ?_
    refine gm_145 X w d_M_leastStamp_12 ?_
    refine V_goto (tgt := 22) X d_M_leastStamp_15 (by decide) ?_
    exact f
-- vacuum
def agr (ar ar1 : MA) : Prop := ∀ k, k ≠ 18 → ar1 k = ar k
theorem vAt_agr {ar ar1 : MA} (a : agr ar ar1) (n : Nat) (key st : Int32) : vAt ar1 n key st = vAt ar n key st := by
  have e : pV1 ar1 key st = pV1 ar key st := by funext v; simp only [pV1, a 14 (by decide), a 15 (by decide)]
  rw [vAt, vAt, e]
theorem hadI_agr {ar ar1 : MA} (a : agr ar ar1) (iv : MI) (n nv v : Nat) : hadI iv ar1 n nv v = hadI iv ar n nv v := by
  have e : pHad ar1 nv v = pHad ar nv v := by funext t; simp only [pHad, vAt_agr a, a 14 (by decide), a 3 (by decide), a 1 (by decide)]
  simp only [hadI, e, vAt_agr a, a 14 (by decide)]
theorem vrise_agr {ar ar1 : MA} (a : agr ar ar1) {n : Nat} (h : vrise ar n) : vrise ar1 n := by
  intro i j h1 h2 h3
  rw [a 14 (by decide)] at h3
  rw [a 15 (by decide)]
  exact h i j h1 h2 h3
theorem agr_s {ar ar1 : MA} (a : agr ar ar1) (f : Nat → Int32) : agr ar (aU ar1 18 f) := fun k hk => by rw [aU_n _ _ hk]; exact a k hk
def pfx (ar : MA) (p : Nat → Bool) (v : Nat) : Prop := ∀ j, j < v → ar 18 j = b01 (p j)
theorem pfx_s {ar : MA} {p : Nat → Bool} {v : Nat} (h : pfx ar p v) : pfx (aU ar 18 (upd (ar 18) v (b01 (p v)))) p (v + 1) := by
  intro j hj
  rw [aU_s]
  by_cases e : j = v
  · subst e; rw [pk_us]
  · rw [pk_un e]; exact h j (by omega)
theorem kpI_pfx {ar : MA} {p : Nat → Bool} {n : Nat} (h : pfx ar p n) : kpI ar n = (List.range n).filter (fun v => !p v) := by
  refine List.filter_congr (fun i hi => ?_)
  rw [h i (List.mem_range.mp hi)]
  cases p i <;> simp [b01]
theorem w_M_vacuum1 {K : Cx} {g : GG} {N0 : Nat → Prop} {Q : State → Prop} {h : Mp} {mc ms : Nat} (X : Fx K g N0 b_M_vacuum 5 "SnapshotStoreModel" { frames := 2, cells := mc, slots := ms, locals := 48 } (some .int) "vacuum" []) {m : Nat} {ad : Nat → Nat} {iv : MI} {ar : MA} {n nv : Nat} (hn : iv 3 = nI n) (hn2 : n ≤ 120) (hv : iv 4 = nI nv) (hv2 : nv ≤ 3000) (hr : vrise ar nv) : ∀ (k v : Nat) (ar1 : MA) (h : Mp), v + k = nv → agr ar ar1 → pfx ar1 (fun i => !hadI iv ar n nv i) v → MW g m ad h iv ar1 → (∀ h ar1, agr ar ar1 → pfx ar1 (fun i => !hadI iv ar n nv i) nv → MW g m ad h iv ar1 → V K g N0 5 Q  h 0 0 40 [some (va_rf (some m)), some (.int (nI nv)), none, none, none] []) → V K g N0 5 Q  h 0 0 7 [some (va_rf (some m)), some (.int (nI v)), none, none, none] [] := by
  intro k
  induction k with
  | zero =>
    intro v ar1 h hk a p w hp
    have hk : v = nv := by omega
    subst hk
    refine il_1 X d_M_vacuum_7 ?_
    refine al_0 X d_M_vacuum_8 ?_
    refine gm_80 X w d_M_vacuum_9 ?_
    rw [hv]
    refine V_icmp_ge (tgt := 40) X d_M_vacuum_12 (by decide) (fun c_12 => ?_) (fun c_12 => ?_)
    · exact hp h ar1 a p w
    · exact absurd (Int32.le_refl _) c_12
  | succ k ih =>
    intro v ar1 h hk a p w hp
    have fin : ∀ h, MW g m ad h iv (aU ar1 18 (upd (ar1 18) v (b01 (!hadI iv ar n nv v)))) → V K g N0 5 Q h 0 0 34 [some (va_rf (some m)), some (.int (nI v)), none, none, none] [] := by
      intro h w
      refine ic_1 (v := (nI (v+1))) X d_M_vacuum_34 (nI_1 v) rfl (by first | exact okp_n | exact okp_i | exact okp_r) ?_
      refine V_goto (tgt := 7) X d_M_vacuum_37 (by decide) ?_
      exact ih (v + 1) _ h (by omega) (agr_s a _) (pfx_s (p := fun i => !hadI iv ar n nv i) p) w hp
    refine il_1 X d_M_vacuum_7 ?_
    refine al_0 X d_M_vacuum_8 ?_
    refine gm_80 X w d_M_vacuum_9 ?_
    rw [hv]
    refine V_icmp_ge (tgt := 40) X d_M_vacuum_12 (by decide) (fun c_12 => ?_) (fun c_12 => ?_)
    · exact absurd c_12 (nI_ge (by omega) (by omega))
    · refine al_0 X d_M_vacuum_15 ?_
      refine gm_66 X w d_M_vacuum_16 ?_
      refine il_1 X d_M_vacuum_19 ?_
      refine al_0 X d_M_vacuum_20 ?_
      refine il_1 X d_M_vacuum_21 ?_
      refine cl_M_148 X (c_M_isHad _ g N0 h (v := v) hn hn2 hv hv2 (vrise_agr a hr) (by omega) w) w.1 d_M_vacuum_22 (by refine ⟨?_, ?_⟩ <;> first | decide | (dsimp only; first | done | omega)) (by first | decide | (simp only [List.map, rf_cat, cat_i, cat_l, List.sum_cons, List.sum_nil]; first | done | decide | omega)) ⟨(by first | omega | decide | (dsimp only; first | done | omega)), (by first | omega | decide | (dsimp only; first | done | omega))⟩ (fun _ _ z => z.elim) ?_
      rintro r h ⟨rfl, rfl⟩
      rw [hadI_agr a]
      refine V_if_ne (tgt := 32) X d_M_vacuum_25 (by decide) (fun c_25 => ?_) (fun c_25 => ?_)
      · have e := b01_t c_25
        refine V_iconst (v := 0) X d_M_vacuum_32 (by decide) ?_
        refine sm_z X (by first | exact Or.inl rfl | exact Or.inr rfl | exact b01_or _) w (k := 18) (by decide) rfl (show _ < 3000 by omega) (by decide) d_M_vacuum_33 (fun h w => ?_)
        exact fin _ (by rw [e]; exact w)
      · have e := b01_f c_25
        refine V_iconst (v := 1) X d_M_vacuum_28 (by decide) ?_
        refine V_goto (tgt := 33) X d_M_vacuum_29 (by decide) ?_
        refine sm_z X (by first | exact Or.inl rfl | exact Or.inr rfl | exact b01_or _) w (k := 18) (by decide) rfl (show _ < 3000 by omega) (by decide) d_M_vacuum_33 (fun h w => ?_)
        exact fin _ (by rw [e]; exact w)
def pOld (ar : MA) (v u : Nat) : Bool := decide (ar 14 u = ar 14 v) && decide (ar 15 u < ar 15 v)
def trmI (iv : MI) (ar : MA) (n nv v : Nat) : Bool := (!anyN (pOld ar v) nv && !decide (ar 17 v = 0)) && lstB iv ar n (ar 15 v)
theorem w_M_vacuum2 {K : Cx} {g : GG} {N0 : Nat → Prop} {Q : State → Prop} {h : Mp} {mc ms : Nat} (X : Fx K g N0 b_M_vacuum 5 "SnapshotStoreModel" { frames := 2, cells := mc, slots := ms, locals := 48 } (some .int) "vacuum" []) {m : Nat} {ad : Nat → Nat} {iv : MI} {ar : MA} {nv v : Nat} {go : Int32} (hv : iv 4 = nI nv) (hv2 : nv ≤ 3000) (hvn : v < nv) (w : MW g m ad h iv ar) : ∀ (k u : Nat), u + k = nv → (V K g N0 5 Q  h 0 0 117 [some (va_rf (some m)), some (.int go), some (.int (nI v)), some (.int (b01 (!anyN (pOld ar v) nv))), some (.int (nI nv))] []) → V K g N0 5 Q  h 0 0 60 [some (va_rf (some m)), some (.int go), some (.int (nI v)), some (.int (b01 (!anyN (pOld ar v) u))), some (.int (nI u))] [] := by
  intro k
  induction k with
  | zero =>
    intro u hu hp
    have hu : u = nv := by omega
    subst hu
    refine il_4 X d_M_vacuum_60 ?_
    refine al_0 X d_M_vacuum_62 ?_
    refine gm_80 X w d_M_vacuum_63 ?_
    rw [hv]
    refine V_icmp_ge (tgt := 117) X d_M_vacuum_66 (by decide) (fun c_66 => ?_) (fun c_66 => ?_)
    · exact hp
    · exact absurd (Int32.le_refl _) c_66
  | succ k ih =>
    intro u hu hp
    have fin : ∀ b : Bool, b = (!anyN (pOld ar v) (u + 1)) → V K g N0 5 Q h 0 0 110 [some (va_rf (some m)), some (.int go), some (.int (nI v)), some (.int (b01 (!anyN (pOld ar v) u))), some (.int (nI u))] [.int (b01 b)] := by
      intro b hb
      subst hb
      refine is_3 X d_M_vacuum_110 rfl (by first | exact okp_n | exact okp_i | exact okp_r) ?_
      refine ic_4 (v := (nI (u+1))) X d_M_vacuum_111 (nI_1 u) rfl (by first | exact okp_n | exact okp_i | exact okp_r) ?_
      refine V_goto (tgt := 60) X d_M_vacuum_114 (by decide) ?_
      exact ih (u + 1) (by omega) hp
    refine il_4 X d_M_vacuum_60 ?_
    refine al_0 X d_M_vacuum_62 ?_
    refine gm_80 X w d_M_vacuum_63 ?_
    rw [hv]
    refine V_icmp_ge (tgt := 117) X d_M_vacuum_66 (by decide) (fun c_66 => ?_) (fun c_66 => ?_)
    · exact absurd c_66 (nI_ge (by omega) (by omega))
    · refine il_3 X d_M_vacuum_69 ?_
      refine V_if_eq (tgt := 109) X d_M_vacuum_70 (by decide) (fun c_70 => ?_) (fun c_70 => ?_)
      · have f := fin false (by rw [anyN, Bool.not_or, b01_f c_70]; rfl)
        refine V_iconst (v := 0) X d_M_vacuum_109 (by decide) ?_
        exact f
      · have e := b01_t c_70
        refine al_0 X d_M_vacuum_73 ?_
        refine gm_54 X w d_M_vacuum_74 ?_
        refine il_4 X d_M_vacuum_77 ?_
        refine am_i X w (k := 14) (by decide) rfl (show _ < 3000 by omega) (by decide) d_M_vacuum_79 ?_
        refine al_0 X d_M_vacuum_80 ?_
        refine gm_54 X w d_M_vacuum_81 ?_
        refine il_2 X d_M_vacuum_84 ?_
        refine am_i X w (k := 14) (by decide) rfl (show _ < 3000 by omega) (by decide) d_M_vacuum_85 ?_
        refine V_icmp_ne (tgt := 105) X d_M_vacuum_86 (by decide) (fun c_86 => ?_) (fun c_86 => ?_)
        · have f := fin true (by rw [anyN, Bool.not_or, e, pOld, decide_eq_false c_86]; rfl)
          refine V_iconst (v := 1) X d_M_vacuum_105 (by decide) ?_
          refine V_goto (tgt := 110) X d_M_vacuum_106 (by decide) ?_
          exact f
        · refine al_0 X d_M_vacuum_89 ?_
          refine gm_57 X w d_M_vacuum_90 ?_
          refine il_4 X d_M_vacuum_93 ?_
          refine am_i X w (k := 15) (by decide) rfl (show _ < 3000 by omega) (by decide) d_M_vacuum_95 ?_
          refine al_0 X d_M_vacuum_96 ?_
          refine gm_57 X w d_M_vacuum_97 ?_
          refine il_2 X d_M_vacuum_100 ?_
          refine am_i X w (k := 15) (by decide) rfl (show _ < 3000 by omega) (by decide) d_M_vacuum_101 ?_
          refine V_icmp_lt (tgt := 109) X d_M_vacuum_102 (by decide) (fun c_102 => ?_) (fun c_102 => ?_)
          · have f := fin false (by rw [anyN, Bool.not_or, e, pOld, decide_eq_true c_86, decide_eq_true c_102]; rfl)
            refine V_iconst (v := 0) X d_M_vacuum_109 (by decide) ?_
            exact f
          · have f := fin true (by rw [anyN, Bool.not_or, e, pOld, decide_eq_false c_102, Bool.and_false]; rfl)
            refine V_iconst (v := 1) X d_M_vacuum_105 (by decide) ?_
            refine V_goto (tgt := 110) X d_M_vacuum_106 (by decide) ?_
            exact f
theorem trmI_agr {ar ar1 : MA} (a : agr ar ar1) (iv : MI) (n nv v : Nat) : trmI iv ar1 n nv v = trmI iv ar n nv v := by
  have e : pOld ar1 v = pOld ar v := by funext u; simp only [pOld, a 14 (by decide), a 15 (by decide)]
  simp only [trmI, e, lstB, a 17 (by decide), a 15 (by decide), a 3 (by decide), a 1 (by decide)]
theorem w_M_vacuum3 {K : Cx} {g : GG} {N0 : Nat → Prop} {Q : State → Prop} {h : Mp} {mc ms : Nat} (X : Fx K g N0 b_M_vacuum 5 "SnapshotStoreModel" { frames := 2, cells := mc, slots := ms, locals := 48 } (some .int) "vacuum" []) {m : Nat} {ad : Nat → Nat} {iv : MI} {ar : MA} {n nv : Nat} {go : Int32} (hn : iv 3 = nI n) (hn2 : n ≤ 120) (hv : iv 4 = nI nv) (hv2 : nv ≤ 3000) : ∀ (k v : Nat) (ar1 : MA) (h : Mp) (z3 z4 : Option Value), okp z3 → okp z4 → v + k = nv → agr ar ar1 → pfx ar1 (trmI iv ar n nv) v → MW g m ad h iv ar1 → (∀ h ar1 z3 z4, agr ar ar1 → pfx ar1 (trmI iv ar n nv) nv → MW g m ad h iv ar1 → V K g N0 5 Q  h 0 0 160 [some (va_rf (some m)), some (.int go), some (.int (nI nv)), z3, z4] []) → V K g N0 5 Q  h 0 0 47 [some (va_rf (some m)), some (.int go), some (.int (nI v)), z3, z4] [] := by
  intro k
  induction k with
  | zero =>
    intro v ar1 h z3 z4 hz3 hz4 hk a p w hp
    have hk : v = nv := by omega
    subst hk
    refine il_2 X d_M_vacuum_47 ?_
    refine al_0 X d_M_vacuum_48 ?_
    refine gm_80 X w d_M_vacuum_49 ?_
    rw [hv]
    refine V_icmp_ge (tgt := 160) X d_M_vacuum_52 (by decide) (fun c_52 => ?_) (fun c_52 => ?_)
    · exact hp h ar1 _ _ a p w
    · exact absurd (Int32.le_refl _) c_52
  | succ k ih =>
    intro v ar1 h z3 z4 hz3 hz4 hk a p w hp
    refine il_2 X d_M_vacuum_47 ?_
    refine al_0 X d_M_vacuum_48 ?_
    refine gm_80 X w d_M_vacuum_49 ?_
    rw [hv]
    refine V_icmp_ge (tgt := 160) X d_M_vacuum_52 (by decide) (fun c_52 => ?_) (fun c_52 => ?_)
    · exact absurd c_52 (nI_ge (by omega) (by omega))
    · have f2 := w_M_vacuum2 (Q := Q) (go := go) X hv hv2 (show v < nv by omega) w nv 0 (by omega)
      refine V_iconst (v := 1) X d_M_vacuum_55 (by decide) ?_
      refine is_3 X d_M_vacuum_56 rfl (by first | exact okp_n | exact okp_i | exact okp_r) ?_
      refine V_iconst (v := 0) X d_M_vacuum_57 (by decide) ?_
      refine is_4 X d_M_vacuum_58 rfl (by first | exact okp_n | exact okp_i | exact okp_r) ?_
      refine f2 ?_
      have fin : ∀ h, MW g m ad h iv (aU ar1 18 (upd (ar1 18) v (b01 (trmI iv ar1 n nv v)))) → V K g N0 5 Q h 0 0 154 [some (va_rf (some m)), some (.int go), some (.int (nI v)), some (.int (b01 (!anyN (pOld ar1 v) nv))), some (.int (nI nv))] [] := by
        intro h w
        rw [trmI_agr a] at w
        refine ic_2 (v := (nI (v+1))) X d_M_vacuum_154 (nI_1 v) rfl (by first | exact okp_n | exact okp_i | exact okp_r) ?_
        refine V_goto (tgt := 47) X d_M_vacuum_157 (by decide) ?_
        exact ih (v + 1) _ h _ _ okp_i okp_i (by omega) (agr_s a _) (pfx_s p) w hp
      refine al_0 X d_M_vacuum_117 ?_
      refine gm_66 X w d_M_vacuum_118 ?_
      refine il_2 X d_M_vacuum_121 ?_
      refine il_3 X d_M_vacuum_122 ?_
      refine V_if_eq (tgt := 152) X d_M_vacuum_123 (by decide) (fun c_123 => ?_) (fun c_123 => ?_)
      · have e : trmI iv ar1 n nv v = false := by rw [trmI, b01_f c_123]; rfl
        refine V_iconst (v := 0) X d_M_vacuum_152 (by decide) ?_
        refine sm_z X (by first | exact Or.inl rfl | exact Or.inr rfl | exact b01_or _) w (k := 18) (by decide) rfl (show _ < 3000 by omega) (by decide) d_M_vacuum_153 (fun h w => ?_)
        exact fin _ (by rw [e]; exact w)
      · have e1 := b01_t c_123
        refine al_0 X d_M_vacuum_126 ?_
        refine gm_63 X w d_M_vacuum_127 ?_
        refine il_2 X d_M_vacuum_130 ?_
        refine am_z X w (k := 17) (by decide) rfl (show _ < 3000 by omega) (by decide) d_M_vacuum_131 ?_
        refine V_if_eq (tgt := 152) X d_M_vacuum_132 (by decide) (fun c_132 => ?_) (fun c_132 => ?_)
        · have e : trmI iv ar1 n nv v = false := by rw [trmI, decide_eq_true c_132]; simp
          refine V_iconst (v := 0) X d_M_vacuum_152 (by decide) ?_
          refine sm_z X (by first | exact Or.inl rfl | exact Or.inr rfl | exact b01_or _) w (k := 18) (by decide) rfl (show _ < 3000 by omega) (by decide) d_M_vacuum_153 (fun h w => ?_)
          exact fin _ (by rw [e]; exact w)
        · refine al_0 X d_M_vacuum_135 ?_
          refine cl_M_155 X (c_M_leastStamp _ g N0 h hn hn2 w) w.1 d_M_vacuum_136 (by refine ⟨?_, ?_⟩ <;> first | decide | (dsimp only; first | done | omega)) (by first | decide | (simp only [List.map, rf_cat, cat_i, cat_l, List.sum_cons, List.sum_nil]; first | done | decide | omega)) ⟨(by first | omega | decide | (dsimp only; first | done | omega)), (by first | omega | decide | (dsimp only; first | done | omega))⟩ (fun _ _ z => z.elim) ?_
          rintro r h ⟨hr, rfl⟩
          refine al_0 X d_M_vacuum_139 ?_
          refine gm_57 X w d_M_vacuum_140 ?_
          refine il_2 X d_M_vacuum_143 ?_
          refine am_i X w (k := 15) (by decide) rfl (show _ < 3000 by omega) (by decide) d_M_vacuum_144 ?_
          have e2 : trmI iv ar1 n nv v = decide (ar1 15 v ≤ r) := by rw [trmI, e1, decide_eq_false c_132, ← hr]; simp
          refine V_icmp_lt (tgt := 152) X d_M_vacuum_145 (by decide) (fun c_145 => ?_) (fun c_145 => ?_)
          · have e : trmI iv ar1 n nv v = false := by rw [e2, decide_eq_false (Int32.not_le.mpr c_145)]
            refine V_iconst (v := 0) X d_M_vacuum_152 (by decide) ?_
            refine sm_z X (by first | exact Or.inl rfl | exact Or.inr rfl | exact b01_or _) w (k := 18) (by decide) rfl (show _ < 3000 by omega) (by decide) d_M_vacuum_153 (fun h w => ?_)
            exact fin _ (by rw [e]; exact w)
          · have e : trmI iv ar1 n nv v = true := by rw [e2, decide_eq_true (Int32.not_lt.mp c_145)]
            refine V_iconst (v := 1) X d_M_vacuum_148 (by decide) ?_
            refine V_goto (tgt := 153) X d_M_vacuum_149 (by decide) ?_
            refine sm_z X (by first | exact Or.inl rfl | exact Or.inr rfl | exact b01_or _) w (k := 18) (by decide) rfl (show _ < 3000 by omega) (by decide) d_M_vacuum_153 (fun h w => ?_)
            exact fin _ (by rw [e]; exact w)
/-- the reference's arrays behind a close -/
def cls (ar ar1 : MA) (p : Nat → Bool) (n j : Nat) : Prop := (∀ k, k < 14 ∨ 18 < k → ar1 k = ar k) ∧ j ≤ n ∧ vlist ar1 j = ((List.range n).filter p).map (vrow ar)
theorem vrow_agr {ar ar1 : MA} (a : agr ar ar1) (v : Nat) : vrow ar1 v = vrow ar v := by simp only [vrow, a 14 (by decide), a 15 (by decide), a 16 (by decide), a 17 (by decide)]
theorem cls_of {ar ar1 ar2 : MA} {p : Nat → Bool} {n j : Nat} (a : agr ar ar1) (hp : pfx ar1 (fun v => !p v) n) (c : clI ar1 ar2 j n) : cls ar ar2 p n j := by
  refine ⟨fun k hk => by rw [c.k k (by omega), a k (by omega)], c.le, ?_⟩
  rw [c.l, kpI_pfx hp]
  have e : vrow ar1 = vrow ar := funext (vrow_agr a)
  rw [e]
  simp
theorem cls_17 {ar ar1 : MA} {p : Nat → Bool} {n j : Nat} (c : cls ar ar1 p n j) (h17 : ∀ v, v < n → ar 17 v = 0 ∨ ar 17 v = 1) : ∀ v, v < j → ar1 17 v = 0 ∨ ar1 17 v = 1 := by
  intro v hv
  have h1 : vrow ar1 v ∈ vlist ar1 j := List.mem_map.mpr ⟨v, List.mem_range.mpr hv, rfl⟩
  rw [c.2.2] at h1
  obtain ⟨i, hi, e⟩ := List.mem_map.mp h1
  have hi := List.mem_range.mp (List.mem_filter.mp hi).1
  have := congrArg (fun (r : RW) => r.2.2.2) e
  dsimp only [vrow] at this
  rw [← this]
  exact h17 i hi
theorem c_M_vacuum (l : Launch) (g : GG) (N0 : Nat → Prop) (h : Mp) {m : Nat} {ad : Nat → Nat} {iv : MI} {ar : MA} {n nv : Nat} (hn : iv 3 = nI n) (hn2 : n ≤ 120) (hv : iv 4 = nI nv) (hv2 : nv ≤ 3000) (hr : vrise ar nv) (h17 : ∀ v, v < nv → ar 17 v = 0 ∨ ar 17 v = 1) (w : MW g m ad h iv ar) : Ct l y_M_vacuum b_M_vacuum 5 (some .int) 2 48 0 0 g N0 h [va_rf (some m)] (pI (fun r h' => ∃ ar1 j1 ar2 j2, cls ar ar1 (hadI iv ar n nv) nv j1 ∧ cls ar1 ar2 (fun v => !trmI iv ar1 n j1 v) j1 j2 ∧ r = nI (nv - j2) ∧ ∃ iv', MW g m ad h' iv' ar2 ∧ iv' 4 = nI j2 ∧ iv' 0 = 0 ∧ ∀ i, 1 ≤ i → i ≤ 3 → iv' i = iv i)) nox := by
  refine Ct_of "SnapshotStoreModel" "vacuum" [some (va_rf (some m)), none, none, none, none] (by decide) rfl rfl (by simp [lg_sl, rf_cat, cat_i, cat_l]) (by simp [toL, lv_args, rf_cat, cat_i, cat_l]) (fun K hl X => ?_)
  refine al_0 X d_M_vacuum_0 ?_
  refine V_iconst (v := 0) X d_M_vacuum_1 (by decide) ?_
  refine pm_69 X w d_M_vacuum_2 (fun h w => ?_)
  refine V_iconst (v := 0) X d_M_vacuum_5 (by decide) ?_
  refine is_1 X d_M_vacuum_6 rfl (by first | exact okp_n | exact okp_i | exact okp_r) ?_
  have eh : hadI (iU iv 0 0) ar n nv = hadI iv ar n nv := by funext v; simp (decide := true) only [hadI, iU_n]
  refine w_M_vacuum1 (h := h) X (iv := iU iv 0 0) (by rw [iU_n _ _ (by decide)]; exact hn) hn2 (by rw [iU_n _ _ (by decide)]; exact hv) hv2 hr nv 0 ar h (by omega) (fun _ _ => rfl) (fun j hj => absurd hj (Nat.not_lt_zero _)) w (fun h ar1 a p w => ?_)
  refine al_0 X d_M_vacuum_40 ?_
  refine cl_M_151 X (c_M_close _ g N0 h (by rw [iU_n _ _ (by decide)]; exact hv) hv2 (fun v hv => by rw [a 17 (by decide)]; exact h17 v hv) w) w.1 d_M_vacuum_41 (by refine ⟨?_, ?_⟩ <;> first | decide | (dsimp only; first | done | omega)) (by first | decide | (simp only [List.map, rf_cat, cat_i, cat_l, List.sum_cons, List.sum_nil]; first | done | decide | omega)) ⟨(by first | omega | decide | (dsimp only; first | done | omega)), (by first | omega | decide | (dsimp only; first | done | omega))⟩ (fun _ _ z => z.elim) ?_
  rintro r h ⟨ar2, j1, c, rfl, w⟩
  have cc := cls_of a p c
  have hj1 := c.le
  refine is_1 X d_M_vacuum_44 rfl (by first | exact okp_n | exact okp_i | exact okp_r) ?_
  refine V_iconst (v := 0) X d_M_vacuum_45 (by decide) ?_
  refine is_2 X d_M_vacuum_46 rfl (by first | exact okp_n | exact okp_i | exact okp_r) ?_
  refine w_M_vacuum3 (h := h) X (iv := iU (iU iv 0 0) 4 (nI j1)) (ar := ar2) (n := n) (nv := j1) (by rw [iU_n _ _ (by decide), iU_n _ _ (by decide)]; exact hn) hn2 (iU_s _ _ _) (by omega) j1 0 ar2 h _ _ okp_n okp_n (by omega) (fun _ _ => rfl) (fun j hj => absurd hj (Nat.not_lt_zero _)) w (fun h ar3 z3 z4 a3 p3 w => ?_)
  refine il_1 X d_M_vacuum_160 ?_
  refine al_0 X d_M_vacuum_161 ?_
  refine cl_M_151 X (c_M_close _ g N0 h (n := j1) (iU_s _ _ _) (by omega) (fun v hv => by rw [a3 17 (by decide)]; exact cls_17 cc h17 v hv) w) w.1 d_M_vacuum_162 (by refine ⟨?_, ?_⟩ <;> first | decide | (dsimp only; first | done | omega)) (by first | decide | (simp only [List.map, rf_cat, cat_i, cat_l, List.sum_cons, List.sum_nil]; first | done | decide | omega)) ⟨(by first | omega | decide | (dsimp only; first | done | omega)), (by first | omega | decide | (dsimp only; first | done | omega))⟩ (fun _ _ z => z.elim) ?_
  rintro r h ⟨ar4, j2, c2, rfl, w⟩
  have p3' : pfx ar3 (fun v => !(fun v => !trmI (iU (iU iv 0 0) 4 (nI j1)) ar2 n j1 v) v) j1 := fun j hj => by rw [p3 j hj]; dsimp only; rw [Bool.not_not]
  have cc2 := cls_of a3 p3' c2
  have hj2 := c2.le
  have et : trmI (iU (iU iv 0 0) 4 (nI j1)) ar2 n j1 = trmI iv ar2 n j1 := by funext v; simp (decide := true) only [trmI, lstB, iU_n]
  rw [et] at cc2
  rw [eh] at cc
  refine V_iadd X d_M_vacuum_165 ?_
  rw [nI_add, show nv - j1 + (j1 - j2) = nv - j2 by omega]
  refine V_iret X rfl d_M_vacuum_166 (by first | omega | decide | (dsimp only; first | done | omega)) (by first | omega | decide | (dsimp only; first | done | omega)) ?_
  refine ⟨_, rfl, ar2, j1, ar4, j2, cc, cc2, rfl, _, w, iU_s _ _ _, ?_, fun i h1 h3 => ?_⟩
  · simp (decide := true) only [iU_n, iU_s]
  · rw [iU_n _ _ (by omega), iU_n _ _ (by omega), iU_n _ _ (by omega)]

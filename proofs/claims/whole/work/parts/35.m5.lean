-- the reference's commit
def mCA (ar : MA) (t c nv : Nat) (ck : Int32) : Nat → MA
  | 0 => ar
  | v + 1 => if pK1 ar t c v then aU (aU (aU (aU (mCA ar t c nv ck v) 14 (upd (mCA ar t c nv ck v 14) (nv + cntN (pK1 ar t c) v) (ar 6 (600 * t + v)))) 15 (upd (mCA ar t c nv ck v 15) (nv + cntN (pK1 ar t c) v) ck)) 16 (upd (mCA ar t c nv ck v 16) (nv + cntN (pK1 ar t c) v) (ar 7 (600 * t + v)))) 17 (upd (mCA ar t c nv ck v 17) (nv + cntN (pK1 ar t c) v) (ar 8 (600 * t + v))) else mCA ar t c nv ck v
theorem mCA_k {ar : MA} {t c nv : Nat} {ck : Int32} {k : Nat} (h1 : k ≠ 14) (h2 : k ≠ 15) (h3 : k ≠ 16) (h4 : k ≠ 17) : ∀ v, mCA ar t c nv ck v k = ar k
  | 0 => rfl
  | v + 1 => by
    rw [mCA]
    split
    · rw [aU_n _ _ h4, aU_n _ _ h3, aU_n _ _ h2, aU_n _ _ h1]
      exact mCA_k h1 h2 h3 h4 v
    · exact mCA_k h1 h2 h3 h4 v
theorem cntN_le (p : Nat → Bool) : ∀ n, cntN p n ≤ n
  | 0 => Nat.le_refl _
  | n + 1 => by rw [cntN]; have := cntN_le p n; split <;> omega
theorem wIx_eq {t c v : Nat} {ar : MA} (ht : t < 120) (hc : c < 600) (hv : v < 600) : wIx t (wOf ar t c (ar 6 (600 * t + v))) = nI (600 * t + v) ↔ pK1 ar t c v = true := by
  rw [pK1, decide_eq_true_eq]
  cases hw : wOf ar t c (ar 6 (600 * t + v)) with
  | none => exact ⟨fun z => absurd z (by intro q; have := nI_pos (n := 600 * t + v) (by omega); rw [← q] at this; exact this (show (-1 : Int32) < 0 by decide)), fun z => by cases z⟩
  | some i =>
    have hi := (lix_lt hw).1
    constructor
    · intro z
      have := (nI_eq (a := 600 * t + i) (b := 600 * t + v) (by omega) (by omega)).mp z
      rw [show i = v by omega]
    · intro z; cases z; rfl
theorem w_M_commit {K : Cx} {g : GG} {N0 : Nat → Prop} {Q : State → Prop} {h : Mp} {mc ms : Nat} (X : Fx K g N0 b_M_commit 4 "SnapshotStoreModel" { frames := 3, cells := mc, slots := ms, locals := 69 } (some .int) "commit" []) {m : Nat} {ad : Nat → Nat} {ar : MA} {t c nv : Nat} {ck no : Int32} (ht : t < 120) (hc : ar 5 t = nI c) (hc2 : c < 600) (hnv : nv + c ≤ 3000) (h8 : ∀ k, k < c → ar 8 (600 * t + k) = 0 ∨ ar 8 (600 * t + k) = 1) : ∀ (k v : Nat) (h : Mp) (iv : MI), v + k = c → MW g m ad h iv (mCA ar t c nv ck v) → iv 1 = ck → iv 4 = nI (nv + cntN (pK1 ar t c) v) → (∀ h iv', MW g m ad h iv' (mCA ar t c nv ck c) → iv' 4 = nI (nv + cntN (pK1 ar t c) c) → (∀ i, i < 4 → iv' i = iv i) → V K g N0 4 Q  h 0 0 197 [some (va_rf (some m)), some (.int (nI t)), some (.int no), some (.int (nI (600 * t + c)))] []) → V K g N0 4 Q  h 0 0 92 [some (va_rf (some m)), some (.int (nI t)), some (.int no), some (.int (nI (600 * t + v)))] [] := by
  intro k
  induction k with
  | zero =>
    intro v h iv hv w hck hnv4 hp
    have hv : v = c := by omega
    subst hv
    refine il_3 X d_M_commit_92 ?_
    refine V_sipush (v := 600) X d_M_commit_93 (by decide) ?_
    refine il_1 X d_M_commit_96 ?_
    refine V_imul X d_M_commit_97 ?_
    refine al_0 X d_M_commit_98 ?_
    refine gm_26 X w d_M_commit_99 ?_
    refine il_1 X d_M_commit_102 ?_
    refine am_i X w (k := 5) (by decide) rfl (show _ < 120 by omega) (by decide) d_M_commit_103 ?_
    rw [show (600 : Int32) = nI 600 from rfl, pk_mul, mCA_k (by decide) (by decide) (by decide) (by decide), hc]
    refine V_iadd X d_M_commit_104 ?_
    rw [nI_add]
    refine V_icmp_ge (tgt := 197) X d_M_commit_105 (by decide) (fun c_105 => ?_) (fun c_105 => ?_)
    · exact hp h iv w hnv4 (fun i _ => rfl)
    · exact absurd (Int32.le_refl _) c_105
  | succ k ih =>
    intro v h iv hv w hck hnv4 hp
    have hcn := cntN_le (pK1 ar t c) v
    have m5 : mCA ar t c nv ck v 5 = ar 5 := mCA_k (by decide) (by decide) (by decide) (by decide) v
    have m6 : mCA ar t c nv ck v 6 = ar 6 := mCA_k (by decide) (by decide) (by decide) (by decide) v
    have m7 : mCA ar t c nv ck v 7 = ar 7 := mCA_k (by decide) (by decide) (by decide) (by decide) v
    have m8 : mCA ar t c nv ck v 8 = ar 8 := mCA_k (by decide) (by decide) (by decide) (by decide) v
    have ew : wOf (mCA ar t c nv ck v) t c (ar 6 (600 * t + v)) = wOf ar t c (ar 6 (600 * t + v)) := by
      have : pW1 (mCA ar t c nv ck v) t (ar 6 (600 * t + v)) = pW1 ar t (ar 6 (600 * t + v)) := by funext j; simp only [pW1, m6]
      simp only [wOf, this]
    have ec : cntN (pK1 ar t c) (v + 1) = cntN (pK1 ar t c) v + if pK1 ar t c v then 1 else 0 := rfl
    have fin : ∀ h iv', MW g m ad h iv' (mCA ar t c nv ck (v + 1)) → iv' 4 = nI (nv + cntN (pK1 ar t c) (v + 1)) → (∀ i, i < 4 → iv' i = iv i) → V K g N0 4 Q h 0 0 191 [some (va_rf (some m)), some (.int (nI t)), some (.int no), some (.int (nI (600 * t + v)))] [] := by
      intro h iv' w' h4' hi'
      refine ic_3 (v := (nI (600*t+(v+1)))) X d_M_commit_191 (nI_1 (600*t+v)) rfl (by first | exact okp_n | exact okp_i | exact okp_r) ?_
      refine V_goto (tgt := 92) X d_M_commit_194 (by decide) ?_
      exact ih (v + 1) h iv' (by omega) w' (by rw [hi' 1 (by decide)]; exact hck) h4' (fun h2 iv2 w2 h42 hi2 => hp h2 iv2 w2 h42 (fun i hi => (hi2 i hi).trans (hi' i hi)))
    refine il_3 X d_M_commit_92 ?_
    refine V_sipush (v := 600) X d_M_commit_93 (by decide) ?_
    refine il_1 X d_M_commit_96 ?_
    refine V_imul X d_M_commit_97 ?_
    refine al_0 X d_M_commit_98 ?_
    refine gm_26 X w d_M_commit_99 ?_
    refine il_1 X d_M_commit_102 ?_
    refine am_i X w (k := 5) (by decide) rfl (show _ < 120 by omega) (by decide) d_M_commit_103 ?_
    rw [show (600 : Int32) = nI 600 from rfl, pk_mul, m5, hc]
    refine V_iadd X d_M_commit_104 ?_
    rw [nI_add]
    refine V_icmp_ge (tgt := 197) X d_M_commit_105 (by decide) (fun c_105 => ?_) (fun c_105 => ?_)
    · exact absurd c_105 (nI_ge (by omega) (by omega))
    · refine al_0 X d_M_commit_108 ?_
      refine il_1 X d_M_commit_109 ?_
      refine al_0 X d_M_commit_110 ?_
      refine gm_30 X w d_M_commit_111 ?_
      refine il_3 X d_M_commit_114 ?_
      refine am_i X w (k := 6) (by decide) rfl (show _ < 72000 by omega) (by decide) d_M_commit_115 ?_
      rw [m6]
      refine cl_M_94 X (c_M_writeOf _ g N0 h (ar 6 (600 * t + v)) ht (by rw [m5]; exact hc) hc2 w) w.1 d_M_commit_116 (by refine ⟨?_, ?_⟩ <;> first | decide | (dsimp only; first | done | omega)) (by first | decide | (simp only [List.map, rf_cat, cat_i, cat_l, List.sum_cons, List.sum_nil]; first | done | decide | omega)) ⟨(by first | omega | decide | (dsimp only; first | done | omega)), (by first | omega | decide | (dsimp only; first | done | omega))⟩ (fun _ _ z => z.elim) ?_
      rintro r h ⟨rfl, rfl⟩
      rw [ew]
      refine il_3 X d_M_commit_119 ?_
      refine V_icmp_ne (tgt := 191) X d_M_commit_120 (by decide) (fun c_120 => ?_) (fun c_120 => ?_)
      · have e : pK1 ar t c v = false := by cases hb : pK1 ar t c v with | false => rfl | true => exact absurd ((wIx_eq ht hc2 (by omega)).mpr hb) c_120
        have em : mCA ar t c nv ck (v + 1) = mCA ar t c nv ck v := by rw [mCA, if_neg (by rw [e]; decide)]
        exact fin h iv (by rw [em]; exact w) (by rw [ec, e]; exact hnv4) (fun i _ => rfl)
      · have e : pK1 ar t c v = true := (wIx_eq ht hc2 (by omega)).mp c_120
        have hj : nv + cntN (pK1 ar t c) v < 3000 := by omega
        have z8 : ∀ f1 f2 f3, (aU (aU (aU (mCA ar t c nv ck v) 14 f1) 15 f2) 16 f3) 8 (600 * t + v) = 0 ∨ (aU (aU (aU (mCA ar t c nv ck v) 14 f1) 15 f2) 16 f3) 8 (600 * t + v) = 1 := fun f1 f2 f3 => by rw [aU_n _ _ (by decide), aU_n _ _ (by decide), aU_n _ _ (by decide), m8]; exact h8 v (by omega)
        refine al_0 X d_M_commit_123 ?_
        refine gm_54 X w d_M_commit_124 ?_
        refine al_0 X d_M_commit_127 ?_
        refine gm_80 X w d_M_commit_128 ?_
        refine al_0 X d_M_commit_131 ?_
        refine gm_30 X w d_M_commit_132 ?_
        refine il_3 X d_M_commit_135 ?_
        refine am_i X w (k := 6) (by decide) rfl (show _ < 72000 by omega) (by decide) d_M_commit_136 ?_
        refine sm_i X w (k := 14) (by decide) hnv4 (show _ < 3000 by omega) (by decide) d_M_commit_137 (fun h w => ?_)
        refine al_0 X d_M_commit_138 ?_
        refine gm_57 X w d_M_commit_139 ?_
        refine al_0 X d_M_commit_142 ?_
        refine gm_80 X w d_M_commit_143 ?_
        refine al_0 X d_M_commit_146 ?_
        refine gm_106 X w d_M_commit_147 ?_
        refine sm_i X w (k := 15) (by decide) hnv4 (show _ < 3000 by omega) (by decide) d_M_commit_150 (fun h w => ?_)
        refine al_0 X d_M_commit_151 ?_
        refine gm_60 X w d_M_commit_152 ?_
        refine al_0 X d_M_commit_155 ?_
        refine gm_80 X w d_M_commit_156 ?_
        refine al_0 X d_M_commit_159 ?_
        refine gm_33 X w d_M_commit_160 ?_
        refine il_3 X d_M_commit_163 ?_
        refine am_i X w (k := 7) (by decide) rfl (show _ < 72000 by omega) (by decide) d_M_commit_164 ?_
        refine sm_i X w (k := 16) (by decide) hnv4 (show _ < 3000 by omega) (by decide) d_M_commit_165 (fun h w => ?_)
        refine al_0 X d_M_commit_166 ?_
        refine gm_63 X w d_M_commit_167 ?_
        refine al_0 X d_M_commit_170 ?_
        refine gm_80 X w d_M_commit_171 ?_
        refine al_0 X d_M_commit_174 ?_
        refine gm_36 X w d_M_commit_175 ?_
        refine il_3 X d_M_commit_178 ?_
        refine am_z X w (k := 8) (by decide) rfl (show _ < 72000 by omega) (by decide) d_M_commit_179 ?_
        refine sm_z X (z8 _ _ _) w (k := 17) (by decide) hnv4 (show _ < 3000 by omega) (by decide) d_M_commit_180 (fun h w => ?_)
        refine al_0 X d_M_commit_181 ?_
        refine V_dup X d_M_commit_182 (by first | rfl | exact rf_cat _) ?_
        refine gm_80 X w d_M_commit_183 ?_
        refine V_iconst (v := 1) X d_M_commit_186 (by decide) ?_
        refine V_iadd X d_M_commit_187 ?_
        rw [hnv4, nI_1]
        refine pm_80 X w d_M_commit_188 (fun h w => ?_)
        simp (decide := true) only [aU_n, m6, m7, m8, hck] at w
        have em : mCA ar t c nv ck (v + 1) = aU (aU (aU (aU (mCA ar t c nv ck v) 14 (upd (mCA ar t c nv ck v 14) (nv + cntN (pK1 ar t c) v) (ar 6 (600 * t + v)))) 15 (upd (mCA ar t c nv ck v 15) (nv + cntN (pK1 ar t c) v) ck)) 16 (upd (mCA ar t c nv ck v 16) (nv + cntN (pK1 ar t c) v) (ar 7 (600 * t + v)))) 17 (upd (mCA ar t c nv ck v 17) (nv + cntN (pK1 ar t c) v) (ar 8 (600 * t + v))) := by rw [mCA, if_pos e]
        exact fin h _ (by rw [em]; exact w) (by rw [iU_s, ec, e]; rfl) (fun i hi => iU_n _ _ (by omega))
/-- the reference's arrays behind a commit that is refused, and one that is made -/
def mRef (ar : MA) (t : Nat) : MA := mEnd (aU ar 4 (upd (ar 4) t 0)) t 2
def mCom (ar : MA) (t c nv : Nat) (ck : Int32) : MA := mEnd (mCA (aU ar 2 (upd (ar 2) t ck)) t c nv ck c) t 1
theorem c_M_commit_no (l : Launch) (g : GG) (N0 : Nat → Prop) (h : Mp) {m : Nat} {ad : Nat → Nat} {iv : MI} {ar : MA} {n : Nat} (t : Int32) (hn : iv 3 = nI n) (hn2 : n ≤ 120) (ho : opn n (ar 3) t ≠ 0) (w : MW g m ad h iv ar) : Ct l y_M_commit b_M_commit 4 (some .int) 3 69 0 0 g N0 h [va_rf (some m), .int t] (pI (fun r h' => MW g m ad h' (iU iv 0 (opn n (ar 3) t)) ar)) nox := by
  refine Ct_of "SnapshotStoreModel" "commit" [some (va_rf (some m)), some (.int t), none, none] (by decide) rfl rfl (by simp [lg_sl, rf_cat, cat_i, cat_l]) (by simp [toL, lv_args, rf_cat, cat_i, cat_l]) (fun K hl X => ?_)
  refine al_0 X d_M_commit_0 ?_
  refine il_1 X d_M_commit_1 ?_
  refine cl_M_109 X (c_M_isOpen _ g N0 h t hn hn2 w) w.1 d_M_commit_2 (by refine ⟨?_, ?_⟩ <;> first | decide | (dsimp only; first | done | omega)) (by first | decide | (simp only [List.map, rf_cat, cat_i, cat_l, List.sum_cons, List.sum_nil]; first | done | decide | omega)) ⟨(by first | omega | decide | (dsimp only; first | done | omega)), (by first | omega | decide | (dsimp only; first | done | omega))⟩ (fun _ _ z => z.elim) ?_
  rintro r h ⟨rfl, w⟩
  rw [decide_eq_false ho]
  refine V_if_ne (tgt := 10) X d_M_commit_5 (by decide) (fun c_5 => ?_) (fun c_5 => ?_)
  · exact absurd rfl c_5
  · refine V_iconst (v := 0) X d_M_commit_8 (by decide) ?_
    refine V_iret X rfl d_M_commit_9 (by first | omega | decide | (dsimp only; first | done | omega)) (by first | omega | decide | (dsimp only; first | done | omega)) ?_
    exact ⟨_, rfl, w⟩
theorem MB.i0 {iv : MI} {ar : MA} {n nv : Nat} {wc rc pc : Nat → Nat} (b : MB iv ar n nv wc rc pc) (c : Int32) : MB (iU iv 0 c) ar n nv wc rc pc := ⟨by rw [iU_n _ _ (by decide)]; exact b.1, b.2.1, by rw [iU_n _ _ (by decide)]; exact b.2.2.1, b.2.2.2.1, b.2.2.2.2.1, b.2.2.2.2.2⟩
theorem c_M_commit_con (l : Launch) (g : GG) (N0 : Nat → Prop) (h : Mp) {m : Nat} {ad : Nat → Nat} {iv : MI} {ar : MA} {n nv : Nat} {wc rc pc : Nat → Nat} {t : Nat} (b : MB iv ar n nv wc rc pc) (ht : t < n) (h0 : ar 3 t = 0) (hcf : cfM ar nv t (wc t) = true) (w : MW g m ad h iv ar) : Ct l y_M_commit b_M_commit 4 (some .int) 3 69 0 0 g N0 h [va_rf (some m), .int (nI t)] (pI (fun r h' => r = -1 ∧ ∃ iv', MW g m ad h' iv' (mRef ar t) ∧ ivOk iv iv' 0)) nox := by
  refine Ct_of "SnapshotStoreModel" "commit" [some (va_rf (some m)), some (.int (nI t)), none, none] (by decide) rfl rfl (by simp [lg_sl, rf_cat, cat_i, cat_l]) (by simp [toL, lv_args, rf_cat, cat_i, cat_l]) (fun K hl X => ?_)
  have bb := b
  obtain ⟨b1, b2, b3, b4, b5, b6⟩ := b
  obtain ⟨⟨c1, c2⟩, -, -⟩ := b6 t ht
  refine al_0 X d_M_commit_0 ?_
  refine il_1 X d_M_commit_1 ?_
  refine cl_M_109 X (c_M_isOpen _ g N0 h (nI t) b1 b2 w) w.1 d_M_commit_2 (by refine ⟨?_, ?_⟩ <;> first | decide | (dsimp only; first | done | omega)) (by first | decide | (simp only [List.map, rf_cat, cat_i, cat_l, List.sum_cons, List.sum_nil]; first | done | decide | omega)) ⟨(by first | omega | decide | (dsimp only; first | done | omega)), (by first | omega | decide | (dsimp only; first | done | omega))⟩ (fun _ _ z => z.elim) ?_
  rintro r h ⟨rfl, w⟩
  rw [opn_i b2 ht h0] at w ⊢
  refine V_if_ne (tgt := 10) X d_M_commit_5 (by decide) (fun c_5 => ?_) (fun c_5 => ?_)
  · refine al_0 X d_M_commit_10 ?_
    refine il_1 X d_M_commit_11 ?_
    refine cl_M_136 X (c_M_conflicts _ g N0 h (by omega) c1 c2 (bb.i0 0).2.2.1 b4 w) w.1 d_M_commit_12 (by refine ⟨?_, ?_⟩ <;> first | decide | (dsimp only; first | done | omega)) (by first | decide | (simp only [List.map, rf_cat, cat_i, cat_l, List.sum_cons, List.sum_nil]; first | done | decide | omega)) ⟨(by first | omega | decide | (dsimp only; first | done | omega)), (by first | omega | decide | (dsimp only; first | done | omega))⟩ (fun _ _ z => z.elim) ?_
    rintro r h ⟨rfl, rfl⟩
    rw [hcf]
    refine V_if_eq (tgt := 22) X d_M_commit_15 (by decide) (fun c_15 => ?_) (fun c_15 => ?_)
    · exact absurd c_15 (by decide)
    · refine V_iconst (v := (-1)) X d_M_commit_18 (by decide) ?_
      refine V_goto (tgt := 45) X d_M_commit_19 (by decide) ?_
      refine is_2 X d_M_commit_45 rfl (by first | exact okp_n | exact okp_i | exact okp_r) ?_
      refine il_2 X d_M_commit_46 ?_
      refine V_if_ge (tgt := 66) X d_M_commit_47 (by decide) (fun c_47 => ?_) (fun c_47 => ?_)
      · exact absurd c_47 (by decide)
      · refine al_0 X d_M_commit_50 ?_
        refine gm_23 X w d_M_commit_51 ?_
        refine il_1 X d_M_commit_54 ?_
        refine V_iconst (v := 0) X d_M_commit_55 (by decide) ?_
        refine sm_z X (by first | exact Or.inl rfl | exact Or.inr rfl | exact b01_or _) w (k := 4) (by decide) rfl (show _ < 120 by omega) (by decide) d_M_commit_56 (fun h w => ?_)
        refine al_0 X d_M_commit_57 ?_
        refine il_1 X d_M_commit_58 ?_
        refine V_iconst (v := 2) X d_M_commit_59 (by decide) ?_
        refine cl_M_142 X (c_M_end _ g N0 h 2 (by omega) (by rw [aU_n _ _ (by decide)]; exact c1) c2 w) w.1 d_M_commit_60 (by refine ⟨?_, ?_⟩ <;> first | decide | (dsimp only; first | done | omega)) (by first | decide | (simp only [List.map, rf_cat, cat_i, cat_l, List.sum_cons, List.sum_nil]; first | done | decide | omega)) ⟨(by first | omega | decide | (dsimp only; first | done | omega)), (by first | omega | decide | (dsimp only; first | done | omega))⟩ (fun _ _ z => z.elim) ?_
        rintro r h ⟨rfl, w⟩
        refine is_3 X d_M_commit_63 rfl (by first | exact okp_n | exact okp_i | exact okp_r) ?_
        refine il_2 X d_M_commit_64 ?_
        refine V_iret X rfl d_M_commit_65 (by first | omega | decide | (dsimp only; first | done | omega)) (by first | omega | decide | (dsimp only; first | done | omega)) ?_
        exact ⟨_, rfl, rfl, _, w, ivOk_0 _ _⟩
  · exact absurd c_5 (by decide)
theorem mHad_0 (ar : MA) (t : Nat) (x : Bool) : aU (mHad ar t x) 4 (upd ((mHad ar t x) 4) t 0) = aU ar 4 (upd (ar 4) t 0) := by
  funext j
  by_cases e : j = 4
  · subst e
    rw [aU_s, aU_s, mHad, aU_s]
    funext i
    by_cases ei : i = t
    · subst ei; rw [pk_us, pk_us]
    · rw [pk_un ei, pk_un ei, pk_un ei]
  · rw [aU_n _ _ e, aU_n _ _ e, mHad, aU_n _ _ e]
theorem c_M_commit_uns (l : Launch) (g : GG) (N0 : Nat → Prop) (h : Mp) {m : Nat} {ad : Nat → Nat} {iv : MI} {ar : MA} {n nv : Nat} {wc rc pc : Nat → Nat} {t : Nat} (b : MB iv ar n nv wc rc pc) (ht : t < n) (h0 : ar 3 t = 0) (hcf : cfM ar nv t (wc t) = false) (hse : ¬ ar 0 t = 0) (hu : unsM ar wc rc n t = true) (w : MW g m ad h iv ar) : Ct l y_M_commit b_M_commit 4 (some .int) 3 69 0 0 g N0 h [va_rf (some m), .int (nI t)] (pI (fun r h' => r = -2 ∧ ∃ iv', MW g m ad h' iv' (mRef ar t) ∧ ivOk iv iv' 0)) nox := by
  refine Ct_of "SnapshotStoreModel" "commit" [some (va_rf (some m)), some (.int (nI t)), none, none] (by decide) rfl rfl (by simp [lg_sl, rf_cat, cat_i, cat_l]) (by simp [toL, lv_args, rf_cat, cat_i, cat_l]) (fun K hl X => ?_)
  have bb := b
  obtain ⟨b1, b2, b3, b4, b5, b6⟩ := b
  obtain ⟨⟨c1, c2⟩, -, -⟩ := b6 t ht
  refine al_0 X d_M_commit_0 ?_
  refine il_1 X d_M_commit_1 ?_
  refine cl_M_109 X (c_M_isOpen _ g N0 h (nI t) b1 b2 w) w.1 d_M_commit_2 (by refine ⟨?_, ?_⟩ <;> first | decide | (dsimp only; first | done | omega)) (by first | decide | (simp only [List.map, rf_cat, cat_i, cat_l, List.sum_cons, List.sum_nil]; first | done | decide | omega)) ⟨(by first | omega | decide | (dsimp only; first | done | omega)), (by first | omega | decide | (dsimp only; first | done | omega))⟩ (fun _ _ z => z.elim) ?_
  rintro r h ⟨rfl, w⟩
  rw [opn_i b2 ht h0] at w ⊢
  refine V_if_ne (tgt := 10) X d_M_commit_5 (by decide) (fun c_5 => ?_) (fun c_5 => ?_)
  · refine al_0 X d_M_commit_10 ?_
    refine il_1 X d_M_commit_11 ?_
    refine cl_M_136 X (c_M_conflicts _ g N0 h (by omega) c1 c2 (bb.i0 0).2.2.1 b4 w) w.1 d_M_commit_12 (by refine ⟨?_, ?_⟩ <;> first | decide | (dsimp only; first | done | omega)) (by first | decide | (simp only [List.map, rf_cat, cat_i, cat_l, List.sum_cons, List.sum_nil]; first | done | decide | omega)) ⟨(by first | omega | decide | (dsimp only; first | done | omega)), (by first | omega | decide | (dsimp only; first | done | omega))⟩ (fun _ _ z => z.elim) ?_
    rintro r h ⟨rfl, rfl⟩
    rw [hcf]
    refine V_if_eq (tgt := 22) X d_M_commit_15 (by decide) (fun c_15 => ?_) (fun c_15 => ?_)
    · refine al_0 X d_M_commit_22 ?_
      refine gm_7 X w d_M_commit_23 ?_
      refine il_1 X d_M_commit_26 ?_
      refine am_z X w (k := 0) (by decide) rfl (show _ < 120 by omega) (by decide) d_M_commit_27 ?_
      refine V_if_eq (tgt := 44) X d_M_commit_28 (by decide) (fun c_28 => ?_) (fun c_28 => ?_)
      · exact absurd c_28 hse
      · refine al_0 X d_M_commit_31 ?_
        refine il_1 X d_M_commit_32 ?_
        refine cl_M_139 X (c_M_isUnsafe _ g N0 h (bb.i0 0) ht w) w.1 d_M_commit_33 (by refine ⟨?_, ?_⟩ <;> first | decide | (dsimp only; first | done | omega)) (by first | decide | (simp only [List.map, rf_cat, cat_i, cat_l, List.sum_cons, List.sum_nil]; first | done | decide | omega)) ⟨(by first | omega | decide | (dsimp only; first | done | omega)), (by first | omega | decide | (dsimp only; first | done | omega))⟩ (fun _ _ z => z.elim) ?_
        rintro r h ⟨rfl, w⟩
        rw [hu]
        refine V_if_eq (tgt := 44) X d_M_commit_36 (by decide) (fun c_36 => ?_) (fun c_36 => ?_)
        · exact absurd c_36 (by decide)
        · refine V_bipush (v := (-2)) X d_M_commit_39 (by decide) ?_
          refine V_goto (tgt := 45) X d_M_commit_41 (by decide) ?_
          refine is_2 X d_M_commit_45 rfl (by first | exact okp_n | exact okp_i | exact okp_r) ?_
          refine il_2 X d_M_commit_46 ?_
          refine V_if_ge (tgt := 66) X d_M_commit_47 (by decide) (fun c_47 => ?_) (fun c_47 => ?_)
          · exact absurd c_47 (by decide)
          · refine al_0 X d_M_commit_50 ?_
            refine gm_23 X w d_M_commit_51 ?_
            refine il_1 X d_M_commit_54 ?_
            refine V_iconst (v := 0) X d_M_commit_55 (by decide) ?_
            refine sm_z X (by first | exact Or.inl rfl | exact Or.inr rfl | exact b01_or _) w (k := 4) (by decide) rfl (show _ < 120 by omega) (by decide) d_M_commit_56 (fun h w => ?_)
            refine al_0 X d_M_commit_57 ?_
            refine il_1 X d_M_commit_58 ?_
            refine V_iconst (v := 2) X d_M_commit_59 (by decide) ?_
            rw [mHad_0] at w
            refine cl_M_142 X (c_M_end _ g N0 h 2 (by omega) (by rw [aU_n _ _ (by decide)]; exact c1) c2 w) w.1 d_M_commit_60 (by refine ⟨?_, ?_⟩ <;> first | decide | (dsimp only; first | done | omega)) (by first | decide | (simp only [List.map, rf_cat, cat_i, cat_l, List.sum_cons, List.sum_nil]; first | done | decide | omega)) ⟨(by first | omega | decide | (dsimp only; first | done | omega)), (by first | omega | decide | (dsimp only; first | done | omega))⟩ (fun _ _ z => z.elim) ?_
            rintro r h ⟨rfl, w⟩
            refine is_3 X d_M_commit_63 rfl (by first | exact okp_n | exact okp_i | exact okp_r) ?_
            refine il_2 X d_M_commit_64 ?_
            refine V_iret X rfl d_M_commit_65 (by first | omega | decide | (dsimp only; first | done | omega)) (by first | omega | decide | (dsimp only; first | done | omega)) ?_
            exact ⟨_, rfl, rfl, _, w, ivOk_0 _ _⟩
    · exact absurd rfl c_15
  · exact absurd c_5 (by decide)
def ivCom (iv iv' : MI) (ck : Int32) (nv : Nat) : Prop := iv' 0 = 0 ∧ iv' 1 = ck ∧ iv' 2 = iv 2 ∧ iv' 3 = iv 3 ∧ iv' 4 = nI nv
def mAft (ar : MA) (wc rc : Nat → Nat) (n t : Nat) : MA := if ar 0 t = 0 then ar else mHad ar t (anyN (aftU ar wc rc t) n)
theorem c_M_commit (l : Launch) (g : GG) (N0 : Nat → Prop) (h : Mp) {m : Nat} {ad : Nat → Nat} {iv : MI} {ar : MA} {n nv : Nat} {wc rc pc : Nat → Nat} {t : Nat} (b : MB iv ar n nv wc rc pc) (ht : t < n) (h0 : ar 3 t = 0) (hcf : cfM ar nv t (wc t) = false) (hu : ¬ ar 0 t = 0 → unsM ar wc rc n t = false) (hnv : nv + wc t ≤ 3000) (h8 : ∀ k, k < wc t → ar 8 (600 * t + k) = 0 ∨ ar 8 (600 * t + k) = 1) (w : MW g m ad h iv ar) : Ct l y_M_commit b_M_commit 4 (some .int) 3 69 0 0 g N0 h [va_rf (some m), .int (nI t)] (pI (fun r h' => r = iv 1 + 1 ∧ ∃ iv', MW g m ad h' iv' (mCom (mAft ar wc rc n t) t (wc t) nv (iv 1 + 1)) ∧ ivCom iv iv' (iv 1 + 1) (nv + kOf ar t (wc t)))) nox := by
  refine Ct_of "SnapshotStoreModel" "commit" [some (va_rf (some m)), some (.int (nI t)), none, none] (by decide) rfl rfl (by simp [lg_sl, rf_cat, cat_i, cat_l]) (by simp [toL, lv_args, rf_cat, cat_i, cat_l]) (fun K hl X => ?_)
  have bb := b
  obtain ⟨b1, b2, b3, b4, b5, b6⟩ := b
  obtain ⟨⟨c1, c2⟩, -, -⟩ := b6 t ht
  have fin : ∀ h (ar1 : MA), (∀ k, k ≠ 4 → ar1 k = ar k) → MW g m ad h (iU iv 0 0) ar1 → ar1 = mAft ar wc rc n t → V K g N0 4 (RQ K g N0 (pI (fun r h' => r = iv 1 + 1 ∧ ∃ iv', MW g m ad h' iv' (mCom (mAft ar wc rc n t) t (wc t) nv (iv 1 + 1)) ∧ ivCom iv iv' (iv 1 + 1) (nv + kOf ar t (wc t)))) nox 0 0) h 0 0 44 [some (va_rf (some m)), some (.int (nI t)), none, none] [] := by
    intro h ar1 hk1 w e1
    refine V_iconst (v := 0) X d_M_commit_44 (by decide) ?_
    refine is_2 X d_M_commit_45 rfl (by first | exact okp_n | exact okp_i | exact okp_r) ?_
    refine il_2 X d_M_commit_46 ?_
    refine V_if_ge (tgt := 66) X d_M_commit_47 (by decide) (fun c_47 => ?_) (fun c_47 => ?_)
    · refine al_0 X d_M_commit_66 ?_
      refine V_dup X d_M_commit_67 (by first | rfl | exact rf_cat _) ?_
      refine gm_106 X w d_M_commit_68 ?_
      refine V_iconst (v := 1) X d_M_commit_71 (by decide) ?_
      refine V_iadd X d_M_commit_72 ?_
      rw [iU_n _ _ (by decide)]
      refine pm_106 X w d_M_commit_73 (fun h w => ?_)
      refine al_0 X d_M_commit_76 ?_
      refine gm_17 X w d_M_commit_77 ?_
      refine il_1 X d_M_commit_80 ?_
      refine al_0 X d_M_commit_81 ?_
      refine gm_106 X w d_M_commit_82 ?_
      rw [iU_s]
      refine sm_i X w (k := 2) (by decide) rfl (show _ < 120 by omega) (by decide) d_M_commit_85 (fun h w => ?_)
      refine V_sipush (v := 600) X d_M_commit_86 (by decide) ?_
      refine il_1 X d_M_commit_89 ?_
      refine V_imul X d_M_commit_90 ?_
      rw [show (600 : Int32) = nI 600 from rfl, pk_mul]
      refine is_3 X d_M_commit_91 rfl (by first | exact okp_n | exact okp_i | exact okp_r) ?_
      have hk2 : ∀ k, k ≠ 2 → k ≠ 4 → (aU ar1 2 (upd (ar1 2) t (iv 1 + 1))) k = ar k := fun k h2 h4 => by rw [aU_n _ _ h2]; exact hk1 k h4
      have ek : ∀ v, pK1 (aU ar1 2 (upd (ar1 2) t (iv 1 + 1))) t (wc t) v = pK1 ar t (wc t) v := fun v => by
        have e6 := hk2 6 (by decide) (by decide)
        have : pW1 (aU ar1 2 (upd (ar1 2) t (iv 1 + 1))) t (ar 6 (600 * t + v)) = pW1 ar t (ar 6 (600 * t + v)) := by funext j; simp only [pW1, e6]
        unfold pK1 wOf; rw [e6, this]
      have ecn : cntN (pK1 (aU ar1 2 (upd (ar1 2) t (iv 1 + 1))) t (wc t)) (wc t) = kOf ar t (wc t) := by
        have : pK1 (aU ar1 2 (upd (ar1 2) t (iv 1 + 1))) t (wc t) = pK1 ar t (wc t) := funext ek
        rw [this]; rfl
      refine w_M_commit (h := h) X (ar := aU ar1 2 (upd (ar1 2) t (iv 1 + 1))) (c := wc t) (nv := nv) (ck := iv 1 + 1) (by omega) (by rw [hk2 5 (by decide) (by decide)]; exact c1) c2 hnv (fun k hk => by rw [hk2 8 (by decide) (by decide)]; exact h8 k hk) (wc t) 0 h _ (by omega) w (by rw [iU_s]) (by rw [iU_n _ _ (by decide), iU_n _ _ (by decide)]; exact b3) (fun h iv' w' h4 hi => ?_)
      refine al_0 X d_M_commit_197 ?_
      refine il_1 X d_M_commit_198 ?_
      refine V_iconst (v := 1) X d_M_commit_199 (by decide) ?_
      refine cl_M_142 X (c_M_end _ g N0 h 1 (by omega) (by rw [mCA_k (by decide) (by decide) (by decide) (by decide), hk2 5 (by decide) (by decide)]; exact c1) c2 w') w'.1 d_M_commit_200 (by refine ⟨?_, ?_⟩ <;> first | decide | (dsimp only; first | done | omega)) (by first | decide | (simp only [List.map, rf_cat, cat_i, cat_l, List.sum_cons, List.sum_nil]; first | done | decide | omega)) ⟨(by first | omega | decide | (dsimp only; first | done | omega)), (by first | omega | decide | (dsimp only; first | done | omega))⟩ (fun _ _ z => z.elim) ?_
      rintro r h ⟨rfl, w⟩
      refine is_3 X d_M_commit_203 rfl (by first | exact okp_n | exact okp_i | exact okp_r) ?_
      refine al_0 X d_M_commit_204 ?_
      refine gm_106 X w d_M_commit_205 ?_
      rw [hi 1 (by decide), iU_s]
      refine V_iret X rfl d_M_commit_208 (by first | omega | decide | (dsimp only; first | done | omega)) (by first | omega | decide | (dsimp only; first | done | omega)) ?_
      refine ⟨_, rfl, rfl, iv', ?_, ?_, ?_, ?_, ?_, ?_⟩
      · rw [mCom, ← e1]; exact w
      · rw [hi 0 (by decide), iU_n _ _ (by decide), iU_s]
      · rw [hi 1 (by decide), iU_s]
      · rw [hi 2 (by decide), iU_n _ _ (by decide), iU_n _ _ (by decide)]
      · rw [hi 3 (by decide), iU_n _ _ (by decide), iU_n _ _ (by decide)]
      · rw [h4, ecn]
    · exact absurd (by decide) c_47
  refine al_0 X d_M_commit_0 ?_
  refine il_1 X d_M_commit_1 ?_
  refine cl_M_109 X (c_M_isOpen _ g N0 h (nI t) b1 b2 w) w.1 d_M_commit_2 (by refine ⟨?_, ?_⟩ <;> first | decide | (dsimp only; first | done | omega)) (by first | decide | (simp only [List.map, rf_cat, cat_i, cat_l, List.sum_cons, List.sum_nil]; first | done | decide | omega)) ⟨(by first | omega | decide | (dsimp only; first | done | omega)), (by first | omega | decide | (dsimp only; first | done | omega))⟩ (fun _ _ z => z.elim) ?_
  rintro r h ⟨rfl, w⟩
  rw [opn_i b2 ht h0] at w ⊢
  refine V_if_ne (tgt := 10) X d_M_commit_5 (by decide) (fun c_5 => ?_) (fun c_5 => ?_)
  · refine al_0 X d_M_commit_10 ?_
    refine il_1 X d_M_commit_11 ?_
    refine cl_M_136 X (c_M_conflicts _ g N0 h (by omega) c1 c2 (bb.i0 0).2.2.1 b4 w) w.1 d_M_commit_12 (by refine ⟨?_, ?_⟩ <;> first | decide | (dsimp only; first | done | omega)) (by first | decide | (simp only [List.map, rf_cat, cat_i, cat_l, List.sum_cons, List.sum_nil]; first | done | decide | omega)) ⟨(by first | omega | decide | (dsimp only; first | done | omega)), (by first | omega | decide | (dsimp only; first | done | omega))⟩ (fun _ _ z => z.elim) ?_
    rintro r h ⟨rfl, rfl⟩
    rw [hcf]
    refine V_if_eq (tgt := 22) X d_M_commit_15 (by decide) (fun c_15 => ?_) (fun c_15 => ?_)
    · refine al_0 X d_M_commit_22 ?_
      refine gm_7 X w d_M_commit_23 ?_
      refine il_1 X d_M_commit_26 ?_
      refine am_z X w (k := 0) (by decide) rfl (show _ < 120 by omega) (by decide) d_M_commit_27 ?_
      refine V_if_eq (tgt := 44) X d_M_commit_28 (by decide) (fun c_28 => ?_) (fun c_28 => ?_)
      · exact fin h ar (fun _ _ => rfl) w (by rw [mAft, if_pos c_28])
      · refine al_0 X d_M_commit_31 ?_
        refine il_1 X d_M_commit_32 ?_
        refine cl_M_139 X (c_M_isUnsafe _ g N0 h (bb.i0 0) ht w) w.1 d_M_commit_33 (by refine ⟨?_, ?_⟩ <;> first | decide | (dsimp only; first | done | omega)) (by first | decide | (simp only [List.map, rf_cat, cat_i, cat_l, List.sum_cons, List.sum_nil]; first | done | decide | omega)) ⟨(by first | omega | decide | (dsimp only; first | done | omega)), (by first | omega | decide | (dsimp only; first | done | omega))⟩ (fun _ _ z => z.elim) ?_
        rintro r h ⟨rfl, w⟩
        rw [hu c_28]
        refine V_if_eq (tgt := 44) X d_M_commit_36 (by decide) (fun c_36 => ?_) (fun c_36 => ?_)
        · exact fin h _ (fun k hk => by rw [mHad, aU_n _ _ hk]) w (by rw [mAft, if_neg c_28])
        · exact absurd rfl c_36
    · exact absurd rfl c_15
  · exact absurd c_5 (by decide)

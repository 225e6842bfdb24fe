-- the reference: the next key seen, sum, key
def lstOk (P : Int32 → Prop) (a ls : Int64) : Prop := (ls = 4294967296 ∨ ∃ k : Int32, P k ∧ ls = k.toInt64 ∧ a ≤ k.toInt64) ∧ ∀ k : Int32, P k → a ≤ k.toInt64 → ls ≤ k.toInt64
theorem l6_lt {a b : Int64} : a < b ↔ a.toInt < b.toInt := Int64.lt_iff_toInt_lt
theorem l6_le {a b : Int64} : a ≤ b ↔ a.toInt ≤ b.toInt := Int64.le_iff_toInt_le
theorem l6_i (k : Int32) : k.toInt64.toInt = k.toInt := Int32.toInt_toInt64 k
theorem l6_b (k : Int32) : -2147483648 ≤ k.toInt ∧ k.toInt ≤ 2147483647 := by
  have h1 := k.toInt_lt
  have h2 := k.le_toInt
  constructor <;> omega
theorem l6_no : (4294967296 : Int64).toInt = 4294967296 := by decide
theorem l6_1 (k : Int32) : (k.toInt64 + 1).toInt = k.toInt + 1 := lg_i2l_add k 1
theorem no_key (k : Int32) : (4294967296 : Int64) ≠ k.toInt64 := fun e => by
  have h1 := l6_i k
  rw [← e, l6_no] at h1
  have := l6_b k
  omega
theorem lst_none {P : Int32 → Prop} {a : Int64} (hP : ∀ k, ¬ P k) : lstOk P a 4294967296 := ⟨Or.inl rfl, fun k hk => absurd hk (hP k)⟩
theorem lst_take {P P' : Int32 → Prop} {a ls : Int64} {x : Int32} (h : lstOk P a ls) (hP : ∀ k, P' k ↔ P k ∨ k = x) (h1 : a ≤ x.toInt64) (h2 : x.toInt64 < ls) : lstOk P' a x.toInt64 := by
  refine ⟨Or.inr ⟨x, (hP x).2 (Or.inr rfl), rfl, h1⟩, fun k hk ha => ?_⟩
  rcases (hP k).1 hk with z | rfl
  · have := h.2 k z ha
    rw [l6_le] at *; rw [l6_lt] at h2; omega
  · exact l6_le.mpr (by omega)
theorem lst_skip {P P' : Int32 → Prop} {a ls : Int64} {x : Int32} (h : lstOk P a ls) (hP : ∀ k, P' k ↔ P k ∨ k = x) (h1 : x.toInt64 < a ∨ ls ≤ x.toInt64) : lstOk P' a ls := by
  refine ⟨h.1.imp id (fun ⟨k, a, b, c⟩ => ⟨k, (hP k).2 (Or.inl a), b, c⟩), fun k hk ha => ?_⟩
  rcases (hP k).1 hk with z | rfl
  · exact h.2 k z ha
  · rcases h1 with q | q
    · rw [l6_lt] at q; rw [l6_le] at ha; omega
    · exact q
def pKw (ar : MA) (t v : Nat) (k : Int32) : Prop := ∃ i, i < v ∧ ar 6 (600 * t + i) = k
def pKv (ar : MA) (t c v : Nat) (k : Int32) : Prop := pKw ar t c k ∨ ∃ i, i < v ∧ ar 14 i = k
theorem pKw_s (ar : MA) (t v : Nat) (k : Int32) : pKw ar t (v + 1) k ↔ pKw ar t v k ∨ k = ar 6 (600 * t + v) := by
  constructor
  · rintro ⟨i, hi, e⟩
    by_cases q : i = v
    · subst q; exact Or.inr e.symm
    · exact Or.inl ⟨i, by omega, e⟩
  · rintro (⟨i, hi, e⟩ | e)
    · exact ⟨i, by omega, e⟩
    · exact ⟨v, by omega, e.symm⟩
theorem pKv_s (ar : MA) (t c v : Nat) (k : Int32) : pKv ar t c (v + 1) k ↔ pKv ar t c v k ∨ k = ar 14 v := by
  constructor
  · rintro (z | ⟨i, hi, e⟩)
    · exact Or.inl (Or.inl z)
    · by_cases q : i = v
      · subst q; exact Or.inr e.symm
      · exact Or.inl (Or.inr ⟨i, by omega, e⟩)
  · rintro ((z | ⟨i, hi, e⟩) | e)
    · exact Or.inl z
    · exact Or.inr ⟨i, by omega, e⟩
    · exact Or.inr ⟨v, by omega, e.symm⟩
theorem seen_in {ar : MA} {n t c : Nat} {k : Int32} (h : seenM ar n t c k = true) : pKv ar t c n k := by
  rw [seenM] at h
  cases hw : wOf ar t c k with
  | some i =>
    have := lix_lt hw
    exact Or.inl ⟨i, this.1, of_decide_eq_true this.2⟩
  | none =>
    rw [hw] at h
    cases hv : vAt ar n k (ar 1 t) with
    | none => simp only [hv, seenV] at h; cases h
    | some v =>
      have := lix_lt hv
      have h2 := this.2
      simp only [pV1, Bool.and_eq_true, decide_eq_true_eq] at h2
      exact Or.inr ⟨v, this.1, h2.1⟩
theorem w_M_nextKey1 {K : Cx} {g : GG} {N0 : Nat → Prop} {Q : State → Prop} {h : Mp} {mc ms : Nat} (X : Fx K g N0 b_M_nextKey 9 "SnapshotStoreModel" { frames := 3, cells := mc, slots := ms, locals := 71 } (some .long) "nextKey" []) {m : Nat} {ad : Nat → Nat} {iv : MI} {ar : MA} {t c : Nat} {fr a : Int64} (ht : t < 120) (hc : ar 5 t = nI c) (hc2 : c < 600) (w : MW g m ad h iv ar) : ∀ (k v : Nat) (ls : Int64), v + k = c → lstOk (pKw ar t v) a ls → (∀ ls, lstOk (pKw ar t c) a ls → V K g N0 9 Q  h 0 0 81 [some (va_rf (some m)), some (.int (nI t)), some (.long fr), none, some (.long a), none, some (.long ls), none, some (.int (nI (600 * t + c)))] []) → V K g N0 9 Q  h 0 0 15 [some (va_rf (some m)), some (.int (nI t)), some (.long fr), none, some (.long a), none, some (.long ls), none, some (.int (nI (600 * t + v)))] [] := by
  intro k
  induction k with
  | zero =>
    intro v ls hv hls hp
    have hv : v = c := by omega
    subst hv
    refine il_8 X d_M_nextKey_15 ?_
    refine V_sipush (v := 600) X d_M_nextKey_17 (by decide) ?_
    refine il_1 X d_M_nextKey_20 ?_
    refine V_imul X d_M_nextKey_21 ?_
    rw [show (600 : Int32) = nI 600 from rfl, pk_mul]
    refine al_0 X d_M_nextKey_22 ?_
    refine gm_26 X w d_M_nextKey_23 ?_
    refine il_1 X d_M_nextKey_26 ?_
    refine am_i X w (k := 5) (by decide) rfl (show _ < 120 by omega) (by decide) d_M_nextKey_27 ?_
    rw [hc]
    refine V_iadd X d_M_nextKey_28 ?_
    rw [nI_add]
    refine V_icmp_ge (tgt := 81) X d_M_nextKey_29 (by decide) (fun c_29 => ?_) (fun c_29 => ?_)
    · exact hp ls hls
    · exact absurd (Int32.le_refl _) c_29
  | succ k ih =>
    intro v ls hv hls hp
    have fin : ∀ ls', lstOk (pKw ar t (v + 1)) a ls' → V K g N0 9 Q h 0 0 73 [some (va_rf (some m)), some (.int (nI t)), some (.long fr), none, some (.long a), none, some (.long ls), none, some (.int (nI (600 * t + v)))] [.long ls'] := by
      intro ls' h'
      refine ls_6 X d_M_nextKey_73 rfl (by first | exact okp_n | exact okp_i | exact okp_r) ?_
      refine ic_8 (v := (nI (600*t+(v+1)))) X d_M_nextKey_75 (nI_1 (600*t+v)) rfl (by first | exact okp_n | exact okp_i | exact okp_r) ?_
      refine V_goto (tgt := 15) X d_M_nextKey_78 (by decide) ?_
      exact ih (v + 1) ls' (by omega) h' hp
    have skip : (ar 6 (600 * t + v)).toInt64 < a ∨ ls ≤ (ar 6 (600 * t + v)).toInt64 → V K g N0 9 Q h 0 0 71 [some (va_rf (some m)), some (.int (nI t)), some (.long fr), none, some (.long a), none, some (.long ls), none, some (.int (nI (600 * t + v)))] [] := by
      intro e
      refine ll_6 X d_M_nextKey_71 ?_
      exact fin ls (lst_skip hls (pKw_s ar t v) e)
    refine il_8 X d_M_nextKey_15 ?_
    refine V_sipush (v := 600) X d_M_nextKey_17 (by decide) ?_
    refine il_1 X d_M_nextKey_20 ?_
    refine V_imul X d_M_nextKey_21 ?_
    rw [show (600 : Int32) = nI 600 from rfl, pk_mul]
    refine al_0 X d_M_nextKey_22 ?_
    refine gm_26 X w d_M_nextKey_23 ?_
    refine il_1 X d_M_nextKey_26 ?_
    refine am_i X w (k := 5) (by decide) rfl (show _ < 120 by omega) (by decide) d_M_nextKey_27 ?_
    rw [hc]
    refine V_iadd X d_M_nextKey_28 ?_
    rw [nI_add]
    refine V_icmp_ge (tgt := 81) X d_M_nextKey_29 (by decide) (fun c_29 => ?_) (fun c_29 => ?_)
    · exact absurd c_29 (nI_ge (by omega) (by omega))
    · refine al_0 X d_M_nextKey_32 ?_
      refine gm_30 X w d_M_nextKey_33 ?_
      refine il_8 X d_M_nextKey_36 ?_
      refine am_i X w (k := 6) (by decide) rfl (show _ < 72000 by omega) (by decide) d_M_nextKey_38 ?_
      refine V_i2l X d_M_nextKey_39 ?_
      refine ll_4 X d_M_nextKey_40 ?_
      refine V_lcmp X d_M_nextKey_42 ?_
      refine V_if_lt (tgt := 71) X d_M_nextKey_43 (by decide) (fun c_43 => ?_) (fun c_43 => ?_)
      · exact skip (Or.inl ((lg_cmp_lt _ _).mp c_43))
      · refine al_0 X d_M_nextKey_46 ?_
        refine gm_30 X w d_M_nextKey_47 ?_
        refine il_8 X d_M_nextKey_50 ?_
        refine am_i X w (k := 6) (by decide) rfl (show _ < 72000 by omega) (by decide) d_M_nextKey_52 ?_
        refine V_i2l X d_M_nextKey_53 ?_
        refine ll_6 X d_M_nextKey_54 ?_
        refine V_lcmp X d_M_nextKey_56 ?_
        refine V_if_ge (tgt := 71) X d_M_nextKey_57 (by decide) (fun c_57 => ?_) (fun c_57 => ?_)
        · exact skip (Or.inr ((lg_cmp_ge _ _).mp c_57))
        · refine al_0 X d_M_nextKey_60 ?_
          refine gm_30 X w d_M_nextKey_61 ?_
          refine il_8 X d_M_nextKey_64 ?_
          refine am_i X w (k := 6) (by decide) rfl (show _ < 72000 by omega) (by decide) d_M_nextKey_66 ?_
          refine V_i2l X d_M_nextKey_67 ?_
          refine V_goto (tgt := 73) X d_M_nextKey_68 (by decide) ?_
          exact fin _ (lst_take hls (pKw_s ar t v) (Int64.not_lt.mp (fun z => c_43 ((lg_cmp_lt _ _).mpr z))) (Int64.not_le.mp (fun z => c_57 ((lg_cmp_ge _ _).mpr z))))
theorem w_M_nextKey2 {K : Cx} {g : GG} {N0 : Nat → Prop} {Q : State → Prop} {h : Mp} {mc ms : Nat} (X : Fx K g N0 b_M_nextKey 9 "SnapshotStoreModel" { frames := 3, cells := mc, slots := ms, locals := 71 } (some .long) "nextKey" []) {m : Nat} {ad : Nat → Nat} {iv : MI} {ar : MA} {t c n : Nat} {fr a : Int64} (hn : iv 4 = nI n) (hn2 : n ≤ 3000) (w : MW g m ad h iv ar) : ∀ (k v : Nat) (ls : Int64), v + k = n → lstOk (pKv ar t c v) a ls → (∀ ls, lstOk (pKv ar t c n) a ls → V K g N0 9 Q  h 0 0 142 [some (va_rf (some m)), some (.int (nI t)), some (.long fr), none, some (.long a), none, some (.long ls), none, some (.int (nI n))] []) → V K g N0 9 Q  h 0 0 84 [some (va_rf (some m)), some (.int (nI t)), some (.long fr), none, some (.long a), none, some (.long ls), none, some (.int (nI v))] [] := by
  intro k
  induction k with
  | zero =>
    intro v ls hv hls hp
    have hv : v = n := by omega
    subst hv
    refine il_8 X d_M_nextKey_84 ?_
    refine al_0 X d_M_nextKey_86 ?_
    refine gm_80 X w d_M_nextKey_87 ?_
    rw [hn]
    refine V_icmp_ge (tgt := 142) X d_M_nextKey_90 (by decide) (fun c_90 => ?_) (fun c_90 => ?_)
    · exact hp ls hls
    · exact absurd (Int32.le_refl _) c_90
  | succ k ih =>
    intro v ls hv hls hp
    have fin : ∀ ls', lstOk (pKv ar t c (v + 1)) a ls' → V K g N0 9 Q h 0 0 134 [some (va_rf (some m)), some (.int (nI t)), some (.long fr), none, some (.long a), none, some (.long ls), none, some (.int (nI v))] [.long ls'] := by
      intro ls' h'
      refine ls_6 X d_M_nextKey_134 rfl (by first | exact okp_n | exact okp_i | exact okp_r) ?_
      refine ic_8 (v := (nI (v+1))) X d_M_nextKey_136 (nI_1 v) rfl (by first | exact okp_n | exact okp_i | exact okp_r) ?_
      refine V_goto (tgt := 84) X d_M_nextKey_139 (by decide) ?_
      exact ih (v + 1) ls' (by omega) h' hp
    have skip : (ar 14 v).toInt64 < a ∨ ls ≤ (ar 14 v).toInt64 → V K g N0 9 Q h 0 0 132 [some (va_rf (some m)), some (.int (nI t)), some (.long fr), none, some (.long a), none, some (.long ls), none, some (.int (nI v))] [] := by
      intro e
      refine ll_6 X d_M_nextKey_132 ?_
      exact fin ls (lst_skip hls (pKv_s ar t c v) e)
    refine il_8 X d_M_nextKey_84 ?_
    refine al_0 X d_M_nextKey_86 ?_
    refine gm_80 X w d_M_nextKey_87 ?_
    rw [hn]
    refine V_icmp_ge (tgt := 142) X d_M_nextKey_90 (by decide) (fun c_90 => ?_) (fun c_90 => ?_)
    · exact absurd c_90 (nI_ge (by omega) (by omega))
    · refine al_0 X d_M_nextKey_93 ?_
      refine gm_54 X w d_M_nextKey_94 ?_
      refine il_8 X d_M_nextKey_97 ?_
      refine am_i X w (k := 14) (by decide) rfl (show _ < 3000 by omega) (by decide) d_M_nextKey_99 ?_
      refine V_i2l X d_M_nextKey_100 ?_
      refine ll_4 X d_M_nextKey_101 ?_
      refine V_lcmp X d_M_nextKey_103 ?_
      refine V_if_lt (tgt := 132) X d_M_nextKey_104 (by decide) (fun c_104 => ?_) (fun c_104 => ?_)
      · exact skip (Or.inl ((lg_cmp_lt _ _).mp c_104))
      · refine al_0 X d_M_nextKey_107 ?_
        refine gm_54 X w d_M_nextKey_108 ?_
        refine il_8 X d_M_nextKey_111 ?_
        refine am_i X w (k := 14) (by decide) rfl (show _ < 3000 by omega) (by decide) d_M_nextKey_113 ?_
        refine V_i2l X d_M_nextKey_114 ?_
        refine ll_6 X d_M_nextKey_115 ?_
        refine V_lcmp X d_M_nextKey_117 ?_
        refine V_if_ge (tgt := 132) X d_M_nextKey_118 (by decide) (fun c_118 => ?_) (fun c_118 => ?_)
        · exact skip (Or.inr ((lg_cmp_ge _ _).mp c_118))
        · refine al_0 X d_M_nextKey_121 ?_
          refine gm_54 X w d_M_nextKey_122 ?_
          refine il_8 X d_M_nextKey_125 ?_
          refine am_i X w (k := 14) (by decide) rfl (show _ < 3000 by omega) (by decide) d_M_nextKey_127 ?_
          refine V_i2l X d_M_nextKey_128 ?_
          refine V_goto (tgt := 134) X d_M_nextKey_129 (by decide) ?_
          exact fin _ (lst_take hls (pKv_s ar t c v) (Int64.not_lt.mp (fun z => c_104 ((lg_cmp_lt _ _).mpr z))) (Int64.not_le.mp (fun z => c_118 ((lg_cmp_ge _ _).mpr z))))
def nkP (S : Int32 → Bool) (a r : Int64) : Prop := (r = 4294967296 ∧ ∀ k : Int32, S k = true → ¬ a ≤ k.toInt64) ∨ ∃ k : Int32, r = k.toInt64 ∧ S k = true ∧ a ≤ k.toInt64 ∧ ∀ k' : Int32, S k' = true → a ≤ k'.toInt64 → k.toInt64 ≤ k'.toInt64
def nkPost (g : GG) (m : Nat) (ad : Nat → Nat) (iv : MI) (ar : MA) (n t c : Nat) (fr : Int64) : Int64 → Mp → Prop := fun r h' => nkP (seenM ar n t c) fr r ∧ ∃ iv', MW g m ad h' iv' ar ∧ (∀ i, i ≤ 4 → iv' i = iv i) ∧ ∀ k : Int32, r = k.toInt64 → iv' 6 = valM ar n t c k
theorem w_M_nextKey3 {K : Cx} {g : GG} {N0 : Nat → Prop} {post : Option Value → Mp → Prop} {xp : String → Mp → Prop} {mc ms : Nat} (X : Fx K g N0 b_M_nextKey 9 "SnapshotStoreModel" { frames := 3, cells := mc, slots := ms, locals := 71 } (some .long) "nextKey" []) {m : Nat} {ad : Nat → Nat} {iv0 : MI} {ar : MA} {t c n : Nat} {fr : Int64} (hx : post = pL (nkPost g m ad iv0 ar n t c fr)) (hn : iv0 4 = nI n) (hn2 : n ≤ 3000) (hr : vrise ar n) (ht : t < 120) (hc : ar 5 t = nI c) (hc2 : c < 600) : ∀ (N : Nat) (a : Int64) (h : Mp) (iv : MI) (z1 z2 z3 : Option Value), MW g m ad h iv ar → (∀ i, i ≤ 4 → iv i = iv0 i) → (2147483648 - a.toInt ≤ N) → fr ≤ a → (∀ k : Int32, seenM ar n t c k = true → fr ≤ k.toInt64 → a ≤ k.toInt64) → V K g N0 9 (RQ K g N0 post xp mc ms)  h 0 0 3 [some (va_rf (some m)), some (.int (nI t)), some (.long fr), none, some (.long a), none, z1, z2, z3] [] := by
  intro N
  induction N with
  | zero =>
    intro a h iv z1 z2 z3 w hiv hN hfr hS
    refine V_ldc2 X k_704 d_M_nextKey_3 ?_
    refine ls_6 X d_M_nextKey_6 rfl (by first | exact okp_n | exact okp_i | exact okp_r) ?_
    refine V_sipush (v := 600) X d_M_nextKey_8 (by decide) ?_
    refine il_1 X d_M_nextKey_11 ?_
    refine V_imul X d_M_nextKey_12 ?_
    rw [show (600 : Int32) = nI 600 from rfl, pk_mul]
    refine is_8 X d_M_nextKey_13 rfl (by first | exact okp_n | exact okp_i | exact okp_r) ?_
    refine w_M_nextKey1 X ht hc hc2 w c 0 _ (by omega) (lst_none (fun k ⟨i, hi, _⟩ => absurd hi (Nat.not_lt_zero _))) (fun ls hls => ?_)
    refine V_iconst (v := 0) X d_M_nextKey_81 (by decide) ?_
    refine is_8 X d_M_nextKey_82 rfl (by first | exact okp_n | exact okp_i | exact okp_r) ?_
    refine w_M_nextKey2 X (c := c) (t := t) ((hiv 4 (by decide)).trans hn) hn2 w n 0 _ (by omega) (by
      have e : ∀ k, pKv ar t c 0 k ↔ pKw ar t c k := fun k => ⟨fun z => z.elim id (fun ⟨i, hi, _⟩ => absurd hi (Nat.not_lt_zero _)), Or.inl⟩
      exact ⟨hls.1.imp id (fun ⟨k, a, b, c⟩ => ⟨k, (e k).mpr a, b, c⟩), fun k hk => hls.2 k ((e k).mp hk)⟩) (fun ls hls => ?_)
    have e : ls = 4294967296 := by
      rcases hls.1 with e | ⟨k, _, _, hk⟩
      · exact e
      · rw [l6_le, l6_i] at hk
        have := l6_b k
        omega
    refine ll_6 X d_M_nextKey_142 ?_
    refine V_ldc2 X k_704 d_M_nextKey_144 ?_
    refine V_lcmp X d_M_nextKey_147 ?_
    refine V_if_ne (tgt := 155) X d_M_nextKey_148 (by decide) (fun c_148 => ?_) (fun c_148 => ?_)
    · exact absurd ((lg_cmp_eq _ _).mpr e) c_148
    · refine V_ldc2 X k_704 d_M_nextKey_151 ?_
      refine V_lret X rfl d_M_nextKey_154 (by first | omega | decide | (dsimp only; first | done | omega)) (by first | omega | decide | (dsimp only; first | done | omega)) ?_
      subst hx
      refine ⟨_, rfl, Or.inl ⟨rfl, fun k hk hf => ?_⟩, iv, w, hiv, fun k hk => absurd hk (no_key k)⟩
      have := hS k hk hf
      rw [l6_le, l6_i] at this
      have := l6_b k
      omega
  | succ N ih =>
    intro a h iv z1 z2 z3 w hiv hN hfr hS
    refine V_ldc2 X k_704 d_M_nextKey_3 ?_
    refine ls_6 X d_M_nextKey_6 rfl (by first | exact okp_n | exact okp_i | exact okp_r) ?_
    refine V_sipush (v := 600) X d_M_nextKey_8 (by decide) ?_
    refine il_1 X d_M_nextKey_11 ?_
    refine V_imul X d_M_nextKey_12 ?_
    rw [show (600 : Int32) = nI 600 from rfl, pk_mul]
    refine is_8 X d_M_nextKey_13 rfl (by first | exact okp_n | exact okp_i | exact okp_r) ?_
    refine w_M_nextKey1 X ht hc hc2 w c 0 _ (by omega) (lst_none (fun k ⟨i, hi, _⟩ => absurd hi (Nat.not_lt_zero _))) (fun ls hls => ?_)
    refine V_iconst (v := 0) X d_M_nextKey_81 (by decide) ?_
    refine is_8 X d_M_nextKey_82 rfl (by first | exact okp_n | exact okp_i | exact okp_r) ?_
    refine w_M_nextKey2 X (c := c) (t := t) ((hiv 4 (by decide)).trans hn) hn2 w n 0 _ (by omega) (by
      have e : ∀ k, pKv ar t c 0 k ↔ pKw ar t c k := fun k => ⟨fun z => z.elim id (fun ⟨i, hi, _⟩ => absurd hi (Nat.not_lt_zero _)), Or.inl⟩
      exact ⟨hls.1.imp id (fun ⟨k, a, b, c⟩ => ⟨k, (e k).mpr a, b, c⟩), fun k hk => hls.2 k ((e k).mp hk)⟩) (fun ls hls => ?_)
    refine ll_6 X d_M_nextKey_142 ?_
    refine V_ldc2 X k_704 d_M_nextKey_144 ?_
    refine V_lcmp X d_M_nextKey_147 ?_
    rcases hls.1 with e | ⟨k, hk, rfl, hak⟩
    · refine V_if_ne (tgt := 155) X d_M_nextKey_148 (by decide) (fun c_148 => ?_) (fun c_148 => ?_)
      · exact absurd ((lg_cmp_eq _ _).mpr e) c_148
      · refine V_ldc2 X k_704 d_M_nextKey_151 ?_
        refine V_lret X rfl d_M_nextKey_154 (by first | omega | decide | (dsimp only; first | done | omega)) (by first | omega | decide | (dsimp only; first | done | omega)) ?_
        subst hx
        refine ⟨_, rfl, Or.inl ⟨rfl, fun k hk hf => ?_⟩, iv, w, hiv, fun k hk => absurd hk (no_key k)⟩
        have h1 := hls.2 k (seen_in hk) (hS k hk hf)
        rw [e, l6_le, l6_i, l6_no] at h1
        have := l6_b k
        omega
    · refine V_if_ne (tgt := 155) X d_M_nextKey_148 (by decide) (fun c_148 => ?_) (fun c_148 => ?_)
      · refine al_0 X d_M_nextKey_155 ?_
        refine il_1 X d_M_nextKey_156 ?_
        refine ll_6 X d_M_nextKey_157 ?_
        refine V_l2i X d_M_nextKey_159 ?_
        rw [lg_l2i_i2l]
        refine cl_M_103 X (c_M_look _ g N0 h k ((hiv 4 (by decide)).trans hn) hn2 hr ht hc hc2 w) w.1 d_M_nextKey_160 (by refine ⟨?_, ?_⟩ <;> first | decide | (dsimp only; first | done | omega)) (by first | decide | (simp only [List.map, rf_cat, cat_i, cat_l, List.sum_cons, List.sum_nil]; first | done | decide | omega)) ⟨(by first | omega | decide | (dsimp only; first | done | omega)), (by first | omega | decide | (dsimp only; first | done | omega))⟩ (fun _ _ z => z.elim) ?_
        rintro h w
        refine al_0 X d_M_nextKey_163 ?_
        refine gm_87 X w d_M_nextKey_164 ?_
        rw [iU_n _ _ (by decide), iU_s]
        have hiv2 : ∀ i, i ≤ 4 → iU (iU iv 5 (b01 (seenM ar n t c k))) 6 (valM ar n t c k) i = iv0 i := fun i hi => by rw [iU_n _ _ (by omega), iU_n _ _ (by omega)]; exact hiv i hi
        refine V_if_eq (tgt := 173) X d_M_nextKey_167 (by decide) (fun c_167 => ?_) (fun c_167 => ?_)
        · have e := b01_f c_167
          refine ll_6 X d_M_nextKey_173 ?_
          refine V_lconst (v := 1) X d_M_nextKey_175 (by decide) ?_
          refine V_ladd X d_M_nextKey_176 ?_
          refine ls_4 X d_M_nextKey_177 rfl (by first | exact okp_n | exact okp_i | exact okp_r) ?_
          refine V_goto (tgt := 3) X d_M_nextKey_179 (by decide) ?_
          have h1 := l6_1 k
          have h2 := hak
          rw [l6_le, l6_i] at h2
          refine ih _ h _ _ _ _ w hiv2 (by rw [h1]; omega) (by rw [l6_le] at hfr ⊢; rw [h1]; omega) (fun k' hk' hf => ?_)
          have h3 := hls.2 k' (seen_in hk') (hS k' hk' hf)
          have h4 : k' ≠ k := fun q => by rw [q, e] at hk'; cases hk'
          have h5 : k'.toInt ≠ k.toInt := fun q => h4 (Int32.toInt_inj.mp q)
          rw [l6_le, l6_i, l6_i] at h3
          rw [l6_le, h1, l6_i]
          omega
        · have e := b01_t c_167
          refine ll_6 X d_M_nextKey_170 ?_
          refine V_lret X rfl d_M_nextKey_172 (by first | omega | decide | (dsimp only; first | done | omega)) (by first | omega | decide | (dsimp only; first | done | omega)) ?_
          subst hx
          refine ⟨_, rfl, Or.inr ⟨k, rfl, e, ?_, fun k' hk' hf => hls.2 k' (seen_in hk') (hS k' hk' hf)⟩, _, w, hiv2, fun k' hk' => ?_⟩
          · rw [l6_le] at hfr hak ⊢; omega
          · have : k = k' := by have := congrArg Int64.toInt32 hk'; rwa [lg_l2i_i2l, lg_l2i_i2l] at this
            rw [iU_s, this]
      · exact absurd ((lg_cmp_eq _ _).mp c_148) (fun z => no_key k z.symm)
theorem c_M_nextKey (l : Launch) (g : GG) (N0 : Nat → Prop) (h : Mp) {m : Nat} {ad : Nat → Nat} {iv : MI} {ar : MA} {n t c : Nat} (fr : Int64) (hfr : -2147483648 ≤ fr.toInt) (hn : iv 4 = nI n) (hn2 : n ≤ 3000) (hr : vrise ar n) (ht : t < 120) (hc : ar 5 t = nI c) (hc2 : c < 600) (w : MW g m ad h iv ar) : Ct l y_M_nextKey b_M_nextKey 9 (some .long) 3 71 0 0 g N0 h [va_rf (some m), .int (nI t), .long fr] (pL (nkPost g m ad iv ar n t c fr)) nox := by
  refine Ct_of "SnapshotStoreModel" "nextKey" [some (va_rf (some m)), some (.int (nI t)), some (.long fr), none, none, none, none, none, none] (by decide) rfl rfl (by simp [lg_sl, rf_cat, cat_i, cat_l]) (by simp [toL, lv_args, rf_cat, cat_i, cat_l]) (fun K hl X => ?_)
  refine ll_2 X d_M_nextKey_0 ?_
  refine ls_4 X d_M_nextKey_1 rfl (by first | exact okp_n | exact okp_i | exact okp_r) ?_
  exact w_M_nextKey3 X rfl hn hn2 hr ht hc hc2 4294967296 fr h iv _ _ _ w (fun _ _ => rfl) (by omega) (Int64.le_refl _) (fun _ _ z => z)
theorem nk_list {S : Int32 → Bool} {a r : Int64} {L : List Int32} (hs : L.Pairwise (· < ·)) (hm : ∀ k : Int32, (S k = true ∧ a ≤ k.toInt64) ↔ k ∈ L) (h : nkP S a r) : (L = [] ∧ r = 4294967296) ∨ ∃ k L', L = k :: L' ∧ r = k.toInt64 ∧ (∀ k' : Int32, (S k' = true ∧ k.toInt64 + 1 ≤ k'.toInt64) ↔ k' ∈ L') := by
  cases L with
  | nil =>
    rcases h with ⟨h1, _⟩ | ⟨k, _, h2, h3, _⟩
    · exact Or.inl ⟨rfl, h1⟩
    · have := (hm k).mp ⟨h2, h3⟩
      cases this
  | cons x L' =>
    have hx := (hm x).mpr (List.mem_cons_self ..)
    have hall := (List.pairwise_cons.mp hs).1
    rcases h with ⟨_, h1⟩ | ⟨k, rfl, h2, h3, h4⟩
    · exact absurd hx.2 (h1 x hx.1)
    · have hk : k = x := by
        have h5 := h4 x hx.1 hx.2
        rcases List.mem_cons.mp ((hm k).mp ⟨h2, h3⟩) with e | e
        · exact e
        · have := hall k e
          rw [Int32.lt_iff_toInt_lt] at this
          rw [l6_le, l6_i, l6_i] at h5
          omega
      subst hk
      refine Or.inr ⟨k, L', rfl, rfl, fun k' => ⟨fun ⟨p1, p2⟩ => ?_, fun p => ?_⟩⟩
      · rw [l6_le, l6_1, l6_i] at p2
        rw [l6_le, l6_i] at h3
        rcases List.mem_cons.mp ((hm k').mp ⟨p1, by rw [l6_le, l6_i]; omega⟩) with e | e
        · subst e; omega
        · exact e
      · have h5 := (hm k').mpr (List.mem_cons_of_mem _ p)
        have h6 := hall k' p
        rw [Int32.lt_iff_toInt_lt] at h6
        exact ⟨h5.1, by rw [l6_le, l6_1, l6_i]; omega⟩
def sumR (f : Int32 → Int32) (hi : Int32) : Int64 → List Int32 → Int64
  | acc, [] => acc
  | acc, k :: L => if k ≤ hi then sumR f hi (acc + (f k).toInt64) L else acc
theorem w_M_sum {K : Cx} {g : GG} {N0 : Nat → Prop} {post : Option Value → Mp → Prop} {xp : String → Mp → Prop} {mc ms : Nat} (X : Fx K g N0 b_M_sum 8 "SnapshotStoreModel" { frames := 4, cells := mc, slots := ms, locals := 99 } (some .long) "sum" []) {m : Nat} {ad : Nat → Nat} {iv0 : MI} {ar : MA} {t c n : Nat} {lo hi : Int32} {R : Int64} (hp : ∀ h iv', MW g m ad h iv' ar → (∀ i, i ≤ 4 → iv' i = iv0 i) → post (some (.long R)) h) (hn : iv0 4 = nI n) (hn2 : n ≤ 3000) (hr : vrise ar n) (ht : t < 120) (hc : ar 5 t = nI c) (hc2 : c < 600) : ∀ (L : List Int32) (acc a r : Int64) (h : Mp) (iv : MI), R = sumR (valM ar n t c) hi acc L → L.Pairwise (· < ·) → (∀ k : Int32, (seenM ar n t c k = true ∧ a ≤ k.toInt64) ↔ k ∈ L) → nkP (seenM ar n t c) a r → (∀ k : Int32, r = k.toInt64 → iv 6 = valM ar n t c k) → MW g m ad h iv ar → (∀ i, i ≤ 4 → iv i = iv0 i) → V K g N0 8 (RQ K g N0 post xp mc ms)  h 0 0 29 [some (va_rf (some m)), some (.int (nI t)), some (.int lo), some (.int hi), some (.long acc), none, some (.long r), none] [] := by
  intro L
  induction L with
  | nil =>
    intro acc a r h iv hR hs hm hk h6 w hiv
    rcases nk_list hs hm hk with ⟨_, rfl⟩ | ⟨k, L', e, _⟩
    · refine ll_6 X d_M_sum_29 ?_
      refine il_3 X d_M_sum_31 ?_
      refine V_i2l X d_M_sum_32 ?_
      refine V_lcmp X d_M_sum_33 ?_
      refine V_if_gt (tgt := 61) X d_M_sum_34 (by decide) (fun c_34 => ?_) (fun c_34 => ?_)
      · refine ll_4 X d_M_sum_61 ?_
        refine V_lret X rfl d_M_sum_63 (by first | omega | decide | (dsimp only; first | done | omega)) (by first | omega | decide | (dsimp only; first | done | omega)) ?_
        rw [show acc = R from hR.symm]
        exact hp h iv w hiv
      · refine absurd ((lg_cmp_gt _ _).mpr ?_) c_34
        rw [l6_lt, l6_no, l6_i]
        have := l6_b hi
        omega
    · cases e
  | cons x L ih =>
    intro acc a r h iv hR hs hm hk h6 w hiv
    rcases nk_list hs hm hk with ⟨e, _⟩ | ⟨k, L', e, rfl, hm'⟩
    · cases e
    · cases e
      refine ll_6 X d_M_sum_29 ?_
      refine il_3 X d_M_sum_31 ?_
      refine V_i2l X d_M_sum_32 ?_
      refine V_lcmp X d_M_sum_33 ?_
      refine V_if_gt (tgt := 61) X d_M_sum_34 (by decide) (fun c_34 => ?_) (fun c_34 => ?_)
      · have e : ¬ x ≤ hi := fun z => by
          have h1 := (lg_cmp_gt _ _).mp c_34
          rw [l6_lt, l6_i, l6_i] at h1
          rw [Int32.le_iff_toInt_le] at z
          omega
        refine ll_4 X d_M_sum_61 ?_
        refine V_lret X rfl d_M_sum_63 (by first | omega | decide | (dsimp only; first | done | omega)) (by first | omega | decide | (dsimp only; first | done | omega)) ?_
        rw [show acc = R by rw [hR, sumR, if_neg e]]
        exact hp h iv w hiv
      · have e : x ≤ hi := by
          have h1 := Int64.not_lt.mp (fun z => c_34 ((lg_cmp_gt _ _).mpr z))
          rw [l6_le, l6_i, l6_i] at h1
          rw [Int32.le_iff_toInt_le]
          exact h1
        refine ll_4 X d_M_sum_37 ?_
        refine al_0 X d_M_sum_39 ?_
        refine gm_91 X w d_M_sum_40 ?_
        rw [h6 x rfl]
        refine V_i2l X d_M_sum_43 ?_
        refine V_ladd X d_M_sum_44 ?_
        refine ls_4 X d_M_sum_45 rfl (by first | exact okp_n | exact okp_i | exact okp_r) ?_
        refine al_0 X d_M_sum_47 ?_
        refine il_1 X d_M_sum_48 ?_
        refine ll_6 X d_M_sum_49 ?_
        refine V_lconst (v := 1) X d_M_sum_51 (by decide) ?_
        refine V_ladd X d_M_sum_52 ?_
        refine cl_M_124 X (c_M_nextKey _ g N0 h (x.toInt64 + 1) (by rw [l6_1]; have := l6_b x; omega) ((hiv 4 (by decide)).trans hn) hn2 hr ht hc hc2 w) w.1 d_M_sum_53 (by refine ⟨?_, ?_⟩ <;> first | decide | (dsimp only; first | done | omega)) (by first | decide | (simp only [List.map, rf_cat, cat_i, cat_l, List.sum_cons, List.sum_nil]; first | done | decide | omega)) ⟨(by first | omega | decide | (dsimp only; first | done | omega)), (by first | omega | decide | (dsimp only; first | done | omega))⟩ (fun _ _ z => z.elim) ?_
        rintro r h ⟨hk2, iv2, w2, hi2, h62⟩
        refine ls_6 X d_M_sum_56 rfl (by first | exact okp_n | exact okp_i | exact okp_r) ?_
        refine V_goto (tgt := 29) X d_M_sum_58 (by decide) ?_
        exact ih _ _ _ h iv2 (by rw [hR, sumR, if_pos e]) (List.pairwise_cons.mp hs).2 hm' hk2 h62 w2 (fun i hi => (hi2 i hi).trans (hiv i hi))
theorem c_M_sum_no (l : Launch) (g : GG) (N0 : Nat → Prop) (h : Mp) {m : Nat} {ad : Nat → Nat} {iv : MI} {ar : MA} {n : Nat} (t lo hi : Int32) (hn : iv 3 = nI n) (hn2 : n ≤ 120) (ho : opn n (ar 3) t ≠ 0) (w : MW g m ad h iv ar) : Ct l y_M_sum b_M_sum 8 (some .long) 4 99 0 0 g N0 h [va_rf (some m), .int t, .int lo, .int hi] (pL (fun r h' => MW g m ad h' (iU iv 0 (opn n (ar 3) t)) ar)) nox := by
  refine Ct_of "SnapshotStoreModel" "sum" [some (va_rf (some m)), some (.int t), some (.int lo), some (.int hi), none, none, none, none] (by decide) rfl rfl (by simp [lg_sl, rf_cat, cat_i, cat_l]) (by simp [toL, lv_args, rf_cat, cat_i, cat_l]) (fun K hl X => ?_)
  refine al_0 X d_M_sum_0 ?_
  refine il_1 X d_M_sum_1 ?_
  refine cl_M_109 X (c_M_isOpen _ g N0 h t hn hn2 w) w.1 d_M_sum_2 (by refine ⟨?_, ?_⟩ <;> first | decide | (dsimp only; first | done | omega)) (by first | decide | (simp only [List.map, rf_cat, cat_i, cat_l, List.sum_cons, List.sum_nil]; first | done | decide | omega)) ⟨(by first | omega | decide | (dsimp only; first | done | omega)), (by first | omega | decide | (dsimp only; first | done | omega))⟩ (fun _ _ z => z.elim) ?_
  rintro r h ⟨rfl, w⟩
  rw [decide_eq_false ho]
  refine V_if_ne (tgt := 10) X d_M_sum_5 (by decide) (fun c_5 => ?_) (fun c_5 => ?_)
  · exact absurd rfl c_5
  · refine V_lconst (v := 0) X d_M_sum_8 (by decide) ?_
    refine V_lret X rfl d_M_sum_9 (by first | omega | decide | (dsimp only; first | done | omega)) (by first | omega | decide | (dsimp only; first | done | omega)) ?_
    exact ⟨_, rfl, w⟩
theorem c_M_sum (l : Launch) (g : GG) (N0 : Nat → Prop) (h : Mp) {m : Nat} {ad : Nat → Nat} {iv : MI} {ar : MA} {n nv : Nat} {wc rc pc : Nat → Nat} {t : Nat} {L : List Int32} (lo hi : Int32) (hs : L.Pairwise (· < ·)) (hm : ∀ k : Int32, (seenM ar nv t (wc t) k = true ∧ lo.toInt64 ≤ k.toInt64) ↔ k ∈ L) (b : MB iv ar n nv wc rc pc) (ht : t < n) (h0 : ar 3 t = 0) (w : MW g m ad h iv ar) : Ct l y_M_sum b_M_sum 8 (some .long) 4 99 0 0 g N0 h [va_rf (some m), .int (nI t), .int lo, .int hi] (pL (fun r h' => r = sumR (valM ar nv t (wc t)) hi 0 L ∧ ∃ iv', MW g m ad h' iv' (mNt ar t (rc t) lo hi) ∧ iv' 0 = 0 ∧ ∀ i, 1 ≤ i → i ≤ 4 → iv' i = iv i)) nox := by
  refine Ct_of "SnapshotStoreModel" "sum" [some (va_rf (some m)), some (.int (nI t)), some (.int lo), some (.int hi), none, none, none, none] (by decide) rfl rfl (by simp [lg_sl, rf_cat, cat_i, cat_l]) (by simp [toL, lv_args, rf_cat, cat_i, cat_l]) (fun K hl X => ?_)
  obtain ⟨b1, b2, b3, b4, b5, b6⟩ := b
  obtain ⟨⟨c1, c2⟩, ⟨d1, d2⟩, -⟩ := b6 t ht
  have es : seenM (mNt ar t (rc t) lo hi) nv t (wc t) = seenM ar nv t (wc t) := funext fun k => (look_mNt nv t (wc t) k).2
  have ev : valM (mNt ar t (rc t) lo hi) nv t (wc t) = valM ar nv t (wc t) := funext fun k => (look_mNt nv t (wc t) k).1
  refine al_0 X d_M_sum_0 ?_
  refine il_1 X d_M_sum_1 ?_
  refine cl_M_109 X (c_M_isOpen _ g N0 h (nI t) b1 b2 w) w.1 d_M_sum_2 (by refine ⟨?_, ?_⟩ <;> first | decide | (dsimp only; first | done | omega)) (by first | decide | (simp only [List.map, rf_cat, cat_i, cat_l, List.sum_cons, List.sum_nil]; first | done | decide | omega)) ⟨(by first | omega | decide | (dsimp only; first | done | omega)), (by first | omega | decide | (dsimp only; first | done | omega))⟩ (fun _ _ z => z.elim) ?_
  rintro r h ⟨rfl, w⟩
  rw [opn_i b2 ht h0] at w ⊢
  refine V_if_ne (tgt := 10) X d_M_sum_5 (by decide) (fun c_5 => ?_) (fun c_5 => ?_)
  · refine al_0 X d_M_sum_10 ?_
    refine il_1 X d_M_sum_11 ?_
    refine il_2 X d_M_sum_12 ?_
    refine il_3 X d_M_sum_13 ?_
    refine cl_M_112 X (c_M_noteRead _ g N0 h lo hi (by omega) d1 d2 w) w.1 d_M_sum_14 (by refine ⟨?_, ?_⟩ <;> first | decide | (dsimp only; first | done | omega)) (by first | decide | (simp only [List.map, rf_cat, cat_i, cat_l, List.sum_cons, List.sum_nil]; first | done | decide | omega)) ⟨(by first | omega | decide | (dsimp only; first | done | omega)), (by first | omega | decide | (dsimp only; first | done | omega))⟩ (fun _ _ z => z.elim) ?_
    rintro h2 hp
    have w := mNt_of w hp
    have c1' : mNt ar t (rc t) lo hi 5 t = nI (wc t) := by rw [mNt_k (by decide) (by decide) (by decide)]; exact c1
    refine V_lconst (v := 0) X d_M_sum_17 (by decide) ?_
    refine ls_4 X d_M_sum_18 rfl (by first | exact okp_n | exact okp_i | exact okp_r) ?_
    refine al_0 X d_M_sum_20 ?_
    refine il_1 X d_M_sum_21 ?_
    refine il_2 X d_M_sum_22 ?_
    refine V_i2l X d_M_sum_23 ?_
    refine cl_M_124 X (c_M_nextKey _ g N0 h2 lo.toInt64 (by rw [l6_i]; exact (l6_b lo).1) (by rw [iU_n _ _ (by decide)]; exact b3) b4 (vrise_mNt b5) (by omega) c1' c2 w) w.1 d_M_sum_24 (by refine ⟨?_, ?_⟩ <;> first | decide | (dsimp only; first | done | omega)) (by first | decide | (simp only [List.map, rf_cat, cat_i, cat_l, List.sum_cons, List.sum_nil]; first | done | decide | omega)) ⟨(by first | omega | decide | (dsimp only; first | done | omega)), (by first | omega | decide | (dsimp only; first | done | omega))⟩ (fun _ _ z => z.elim) ?_
    rintro r h ⟨hk, iv2, w2, hi2, h62⟩
    refine ls_6 X d_M_sum_27 rfl (by first | exact okp_n | exact okp_i | exact okp_r) ?_
    exact w_M_sum X (iv0 := iU iv 0 0) (fun h iv' w' hi' => ⟨_, rfl, rfl, iv', w', by rw [hi' 0 (by decide), iU_s], fun i h1 h4 => by rw [hi' i h4, iU_n _ _ (by omega)]⟩) (by rw [iU_n _ _ (by decide)]; exact b3) b4 (vrise_mNt b5) (by omega) c1' c2 L 0 lo.toInt64 r h iv2 (by rw [ev]) hs (by rw [es]; exact hm) hk h62 w2 hi2
  · exact absurd c_5 (by decide)
def nthK (L : List Int32) (j : Nat) : Int64 := match L[j]? with
  | none => 4294967296
  | some k => k.toInt64
def nthH (L : List Int32) (j : Nat) : Int32 := match L[j]? with
  | none => 2147483647
  | some k => k
theorem nthK_h (L : List Int32) (j : Nat) : nthH L j = if nthK L j = 4294967296 then 2147483647 else (nthK L j).toInt32 := by
  rw [nthH, nthK]
  cases L[j]? with
  | none => rw [if_pos rfl]
  | some k => rw [if_neg (fun z => no_key k z.symm)]; exact (lg_l2i_i2l k).symm
theorem w_M_key {K : Cx} {g : GG} {N0 : Nat → Prop} {Q : State → Prop} {h : Mp} {mc ms : Nat} (X : Fx K g N0 b_M_key 7 "SnapshotStoreModel" { frames := 4, cells := mc, slots := ms, locals := 99 } (some .long) "key" []) {m : Nat} {ad : Nat → Nat} {iv0 : MI} {ar : MA} {t c n : Nat} {lo : Int32} {R : Int64} {j : Nat} (hj : j < 2 ^ 31) (hn : iv0 4 = nI n) (hn2 : n ≤ 3000) (hr : vrise ar n) (ht : t < 120) (hc : ar 5 t = nI c) (hc2 : c < 600) (hp : ∀ h iv' z, MW g m ad h iv' ar → (∀ i, i ≤ 4 → iv' i = iv0 i) → V K g N0 7 Q h 0 0 76 [some (va_rf (some m)), some (.int (nI t)), some (.int lo), some (.int (nI j)), some (.long R), none, z] []) : ∀ (L : List Int32) (q : Nat) (a r : Int64) (h : Mp) (iv : MI), q ≤ j → R = nthK L (j - q) → L.Pairwise (· < ·) → (∀ k : Int32, (seenM ar n t c k = true ∧ a ≤ k.toInt64) ↔ k ∈ L) → nkP (seenM ar n t c) a r → MW g m ad h iv ar → (∀ i, i ≤ 4 → iv i = iv0 i) → V K g N0 7 Q  h 0 0 44 [some (va_rf (some m)), some (.int (nI t)), some (.int lo), some (.int (nI j)), some (.long r), none, some (.int (nI q))] [] := by
  intro L
  induction L with
  | nil =>
    intro q a r h iv hq hR hs hm hk w hiv
    rcases nk_list hs hm hk with ⟨_, rfl⟩ | ⟨k, L', e, _⟩
    · have hR : R = 4294967296 := by rw [hR]; rfl
      subst hR
      refine il_6 X d_M_key_44 ?_
      refine il_3 X d_M_key_46 ?_
      refine V_icmp_ge (tgt := 76) X d_M_key_47 (by decide) (fun c_47 => ?_) (fun c_47 => ?_)
      · exact hp h iv _ w hiv
      · refine ll_4 X d_M_key_50 ?_
        refine V_ldc2 X k_704 d_M_key_52 ?_
        refine V_lcmp X d_M_key_55 ?_
        refine V_if_eq (tgt := 76) X d_M_key_56 (by decide) (fun c_56 => ?_) (fun c_56 => ?_)
        · exact hp h iv _ w hiv
        · exact absurd ((lg_cmp_eq _ _).mpr rfl) c_56
    · cases e
  | cons x L ih =>
    intro q a r h iv hq hR hs hm hk w hiv
    rcases nk_list hs hm hk with ⟨e, _⟩ | ⟨k, L', e, rfl, hm'⟩
    · cases e
    · cases e
      refine il_6 X d_M_key_44 ?_
      refine il_3 X d_M_key_46 ?_
      refine V_icmp_ge (tgt := 76) X d_M_key_47 (by decide) (fun c_47 => ?_) (fun c_47 => ?_)
      · have : j ≤ q := (nI_leI hj (by omega)).mp c_47
        have e0 : j - q = 0 := by omega
        have hR : R = x.toInt64 := by rw [hR, e0]; rfl
        subst hR
        exact hp h iv _ w hiv
      · have hlt : q < j := by
          by_cases z : q < j
          · exact z
          · exact absurd (nI_le (a := j) (b := q) (by omega) (by omega)) c_47
        refine ll_4 X d_M_key_50 ?_
        refine V_ldc2 X k_704 d_M_key_52 ?_
        refine V_lcmp X d_M_key_55 ?_
        refine V_if_eq (tgt := 76) X d_M_key_56 (by decide) (fun c_56 => ?_) (fun c_56 => ?_)
        · exact absurd ((lg_cmp_eq _ _).mp c_56) (fun z => no_key x z.symm)
        · refine al_0 X d_M_key_59 ?_
          refine il_1 X d_M_key_60 ?_
          refine ll_4 X d_M_key_61 ?_
          refine V_lconst (v := 1) X d_M_key_63 (by decide) ?_
          refine V_ladd X d_M_key_64 ?_
          refine cl_M_124 X (c_M_nextKey _ g N0 h (x.toInt64 + 1) (by rw [l6_1]; have := l6_b x; omega) ((hiv 4 (by decide)).trans hn) hn2 hr ht hc hc2 w) w.1 d_M_key_65 (by refine ⟨?_, ?_⟩ <;> first | decide | (dsimp only; first | done | omega)) (by first | decide | (simp only [List.map, rf_cat, cat_i, cat_l, List.sum_cons, List.sum_nil]; first | done | decide | omega)) ⟨(by first | omega | decide | (dsimp only; first | done | omega)), (by first | omega | decide | (dsimp only; first | done | omega))⟩ (fun _ _ z => z.elim) ?_
          rintro r h ⟨hk2, iv2, w2, hi2, h62⟩
          refine ls_4 X d_M_key_68 rfl (by first | exact okp_n | exact okp_i | exact okp_r) ?_
          refine ic_6 (v := (nI (q+1))) X d_M_key_70 (nI_1 q) rfl (by first | exact okp_n | exact okp_i | exact okp_r) ?_
          refine V_goto (tgt := 44) X d_M_key_73 (by decide) ?_
          exact ih (q + 1) _ _ h iv2 (by omega) (by rw [hR, show j - q = (j - (q + 1)) + 1 by omega]; rfl) (List.pairwise_cons.mp hs).2 hm' hk2 w2 (fun i hi => (hi2 i hi).trans (hiv i hi))
theorem c_M_key_no (l : Launch) (g : GG) (N0 : Nat → Prop) (h : Mp) {m : Nat} {ad : Nat → Nat} {iv : MI} {ar : MA} {n : Nat} (t lo j : Int32) (hn : iv 3 = nI n) (hn2 : n ≤ 120) (ho : opn n (ar 3) t ≠ 0) (w : MW g m ad h iv ar) : Ct l y_M_key b_M_key 7 (some .long) 4 99 0 0 g N0 h [va_rf (some m), .int t, .int lo, .int j] (pL (fun r h' => MW g m ad h' (iU iv 0 (opn n (ar 3) t)) ar)) nox := by
  refine Ct_of "SnapshotStoreModel" "key" [some (va_rf (some m)), some (.int t), some (.int lo), some (.int j), none, none, none] (by decide) rfl rfl (by simp [lg_sl, rf_cat, cat_i, cat_l]) (by simp [toL, lv_args, rf_cat, cat_i, cat_l]) (fun K hl X => ?_)
  refine al_0 X d_M_key_0 ?_
  refine il_1 X d_M_key_1 ?_
  refine cl_M_109 X (c_M_isOpen _ g N0 h t hn hn2 w) w.1 d_M_key_2 (by refine ⟨?_, ?_⟩ <;> first | decide | (dsimp only; first | done | omega)) (by first | decide | (simp only [List.map, rf_cat, cat_i, cat_l, List.sum_cons, List.sum_nil]; first | done | decide | omega)) ⟨(by first | omega | decide | (dsimp only; first | done | omega)), (by first | omega | decide | (dsimp only; first | done | omega))⟩ (fun _ _ z => z.elim) ?_
  rintro r h ⟨rfl, w⟩
  rw [decide_eq_false ho]
  refine V_if_ne (tgt := 10) X d_M_key_5 (by decide) (fun c_5 => ?_) (fun c_5 => ?_)
  · exact absurd rfl c_5
  · refine V_lconst (v := 0) X d_M_key_8 (by decide) ?_
    refine V_lret X rfl d_M_key_9 (by first | omega | decide | (dsimp only; first | done | omega)) (by first | omega | decide | (dsimp only; first | done | omega)) ?_
    exact ⟨_, rfl, w⟩
theorem c_M_key_neg (l : Launch) (g : GG) (N0 : Nat → Prop) (h : Mp) {m : Nat} {ad : Nat → Nat} {iv : MI} {ar : MA} {n : Nat} {t : Nat} (lo j : Int32) (hn : iv 3 = nI n) (hn2 : n ≤ 120) (ht : t < n) (h0 : ar 3 t = 0) (hj : j < 0) (w : MW g m ad h iv ar) : Ct l y_M_key b_M_key 7 (some .long) 4 99 0 0 g N0 h [va_rf (some m), .int (nI t), .int lo, .int j] (pL (fun r h' => ∃ iv', MW g m ad h' iv' ar ∧ ivOk iv iv' 3)) nox := by
  refine Ct_of "SnapshotStoreModel" "key" [some (va_rf (some m)), some (.int (nI t)), some (.int lo), some (.int j), none, none, none] (by decide) rfl rfl (by simp [lg_sl, rf_cat, cat_i, cat_l]) (by simp [toL, lv_args, rf_cat, cat_i, cat_l]) (fun K hl X => ?_)
  refine al_0 X d_M_key_0 ?_
  refine il_1 X d_M_key_1 ?_
  refine cl_M_109 X (c_M_isOpen _ g N0 h (nI t) hn hn2 w) w.1 d_M_key_2 (by refine ⟨?_, ?_⟩ <;> first | decide | (dsimp only; first | done | omega)) (by first | decide | (simp only [List.map, rf_cat, cat_i, cat_l, List.sum_cons, List.sum_nil]; first | done | decide | omega)) ⟨(by first | omega | decide | (dsimp only; first | done | omega)), (by first | omega | decide | (dsimp only; first | done | omega))⟩ (fun _ _ z => z.elim) ?_
  rintro r h ⟨rfl, w⟩
  rw [opn_i hn2 ht h0] at w ⊢
  refine V_if_ne (tgt := 10) X d_M_key_5 (by decide) (fun c_5 => ?_) (fun c_5 => ?_)
  · refine al_0 X d_M_key_10 ?_
    refine il_3 X d_M_key_11 ?_
    refine V_if_ge (tgt := 19) X d_M_key_12 (by decide) (fun c_12 => ?_) (fun c_12 => ?_)
    · exact absurd hj (Int32.not_lt.mpr c_12)
    · refine V_iconst (v := 3) X d_M_key_15 (by decide) ?_
      refine V_goto (tgt := 20) X d_M_key_16 (by decide) ?_
      refine pm_69 X w d_M_key_20 (fun h w => ?_)
      refine al_0 X d_M_key_23 ?_
      refine gm_69 X w d_M_key_24 ?_
      rw [iU_s]
      refine V_if_le (tgt := 32) X d_M_key_27 (by decide) (fun c_27 => ?_) (fun c_27 => ?_)
      · exact absurd c_27 (by decide)
      · refine V_lconst (v := 0) X d_M_key_30 (by decide) ?_
        refine V_lret X rfl d_M_key_31 (by first | omega | decide | (dsimp only; first | done | omega)) (by first | omega | decide | (dsimp only; first | done | omega)) ?_
        exact ⟨_, rfl, _, w, ivOk_00 _ _ _⟩
  · exact absurd c_5 (by decide)
theorem c_M_key (l : Launch) (g : GG) (N0 : Nat → Prop) (h : Mp) {m : Nat} {ad : Nat → Nat} {iv : MI} {ar : MA} {n nv : Nat} {wc rc pc : Nat → Nat} {t j : Nat} {L : List Int32} (lo : Int32) (hj : j < 2 ^ 31) (hs : L.Pairwise (· < ·)) (hm : ∀ k : Int32, (seenM ar nv t (wc t) k = true ∧ lo.toInt64 ≤ k.toInt64) ↔ k ∈ L) (b : MB iv ar n nv wc rc pc) (ht : t < n) (h0 : ar 3 t = 0) (w : MW g m ad h iv ar) : Ct l y_M_key b_M_key 7 (some .long) 4 99 0 0 g N0 h [va_rf (some m), .int (nI t), .int lo, .int (nI j)] (pL (fun r h' => r = nthK L j ∧ ∃ iv', MW g m ad h' iv' (mNt ar t (rc t) lo (nthH L j)) ∧ ivOk iv iv' 0)) nox := by
  refine Ct_of "SnapshotStoreModel" "key" [some (va_rf (some m)), some (.int (nI t)), some (.int lo), some (.int (nI j)), none, none, none] (by decide) rfl rfl (by simp [lg_sl, rf_cat, cat_i, cat_l]) (by simp [toL, lv_args, rf_cat, cat_i, cat_l]) (fun K hl X => ?_)
  obtain ⟨b1, b2, b3, b4, b5, b6⟩ := b
  obtain ⟨⟨c1, c2⟩, ⟨d1, d2⟩, -⟩ := b6 t ht
  refine al_0 X d_M_key_0 ?_
  refine il_1 X d_M_key_1 ?_
  refine cl_M_109 X (c_M_isOpen _ g N0 h (nI t) b1 b2 w) w.1 d_M_key_2 (by refine ⟨?_, ?_⟩ <;> first | decide | (dsimp only; first | done | omega)) (by first | decide | (simp only [List.map, rf_cat, cat_i, cat_l, List.sum_cons, List.sum_nil]; first | done | decide | omega)) ⟨(by first | omega | decide | (dsimp only; first | done | omega)), (by first | omega | decide | (dsimp only; first | done | omega))⟩ (fun _ _ z => z.elim) ?_
  rintro r h ⟨rfl, w⟩
  rw [opn_i b2 ht h0] at w ⊢
  refine V_if_ne (tgt := 10) X d_M_key_5 (by decide) (fun c_5 => ?_) (fun c_5 => ?_)
  · refine al_0 X d_M_key_10 ?_
    refine il_3 X d_M_key_11 ?_
    refine V_if_ge (tgt := 19) X d_M_key_12 (by decide) (fun c_12 => ?_) (fun c_12 => ?_)
    · refine V_iconst (v := 0) X d_M_key_19 (by decide) ?_
      refine pm_69 X w d_M_key_20 (fun h w => ?_)
      refine al_0 X d_M_key_23 ?_
      refine gm_69 X w d_M_key_24 ?_
      rw [iU_s]
      refine V_if_le (tgt := 32) X d_M_key_27 (by decide) (fun c_27 => ?_) (fun c_27 => ?_)
      · have e4 : iU (iU iv 0 0) 0 0 4 = nI nv := by rw [iU_n _ _ (by decide), iU_n _ _ (by decide)]; exact b3
        refine al_0 X d_M_key_32 ?_
        refine il_1 X d_M_key_33 ?_
        refine il_2 X d_M_key_34 ?_
        refine V_i2l X d_M_key_35 ?_
        refine cl_M_124 X (c_M_nextKey _ g N0 h lo.toInt64 (by rw [l6_i]; exact (l6_b lo).1) e4 b4 b5 (by omega) c1 c2 w) w.1 d_M_key_36 (by refine ⟨?_, ?_⟩ <;> first | decide | (dsimp only; first | done | omega)) (by first | decide | (simp only [List.map, rf_cat, cat_i, cat_l, List.sum_cons, List.sum_nil]; first | done | decide | omega)) ⟨(by first | omega | decide | (dsimp only; first | done | omega)), (by first | omega | decide | (dsimp only; first | done | omega))⟩ (fun _ _ z => z.elim) ?_
        rintro r h ⟨hk, iv2, w2, hi2, h62⟩
        refine ls_4 X d_M_key_39 rfl (by first | exact okp_n | exact okp_i | exact okp_r) ?_
        refine V_iconst (v := 0) X d_M_key_41 (by decide) ?_
        refine is_6 X d_M_key_42 rfl (by first | exact okp_n | exact okp_i | exact okp_r) ?_
        refine w_M_key (h := h) X hj (iv0 := iU (iU iv 0 0) 0 0) (R := nthK L j) e4 b4 b5 (by omega) c1 c2 (fun h iv' z w hi' => ?_) L 0 _ r h iv2 (by omega) rfl hs hm hk w2 hi2
        have fin : ∀ (h : Mp) (x : Int32), x = nthH L j → MW g m ad h iv' ar → V K g N0 7 (RQ K g N0 (pL (fun r h' => r = nthK L j ∧ ∃ iv', MW g m ad h' iv' (mNt ar t (rc t) lo (nthH L j)) ∧ ivOk iv iv' 0)) nox 0 0) h 0 0 96 [some (va_rf (some m)), some (.int (nI t)), some (.int lo), some (.int (nI j)), some (.long (nthK L j)), none, z] [.int x, .int lo, .int (nI t), va_rf (some m)] := by
          intro h x hx w
          subst hx
          refine cl_M_112 X (c_M_noteRead _ g N0 h lo (nthH L j) (by omega) d1 d2 w) w.1 d_M_key_96 (by refine ⟨?_, ?_⟩ <;> first | decide | (dsimp only; first | done | omega)) (by first | decide | (simp only [List.map, rf_cat, cat_i, cat_l, List.sum_cons, List.sum_nil]; first | done | decide | omega)) ⟨(by first | omega | decide | (dsimp only; first | done | omega)), (by first | omega | decide | (dsimp only; first | done | omega))⟩ (fun _ _ z => z.elim) ?_
          rintro h2 hp
          have w := mNt_of w hp
          refine ll_4 X d_M_key_99 ?_
          refine V_lret X rfl d_M_key_101 (by first | omega | decide | (dsimp only; first | done | omega)) (by first | omega | decide | (dsimp only; first | done | omega)) ?_
          exact ⟨_, rfl, rfl, iv', w, by rw [hi' 0 (by decide), iU_s], fun i h1 h4 => by rw [hi' i h4, iU_n _ _ (by omega), iU_n _ _ (by omega)]⟩
        refine al_0 X d_M_key_76 ?_
        refine il_1 X d_M_key_77 ?_
        refine il_2 X d_M_key_78 ?_
        refine ll_4 X d_M_key_79 ?_
        refine V_ldc2 X k_704 d_M_key_81 ?_
        refine V_lcmp X d_M_key_84 ?_
        refine V_if_ne (tgt := 93) X d_M_key_85 (by decide) (fun c_85 => ?_) (fun c_85 => ?_)
        · refine ll_4 X d_M_key_93 ?_
          refine V_l2i X d_M_key_95 ?_
          exact fin h _ (by rw [nthK_h, if_neg (fun z => c_85 ((lg_cmp_eq _ _).mpr z))]) w
        · refine V_ldc X k_709 d_M_key_88 ?_
          refine V_goto (tgt := 96) X d_M_key_90 (by decide) ?_
          exact fin h _ (by rw [nthK_h, if_pos ((lg_cmp_eq _ _).mp c_85)]) w
      · exact absurd (by decide) c_27
    · exact absurd c_12 (fun z => absurd (nI_pos' hj) z)
  · exact absurd c_5 (by decide)

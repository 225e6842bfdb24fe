-- crash's second half; the constructor
theorem set_mid {α : Type} (pre : List α) (u x : α) (t : List α) : (pre ++ u :: t).set pre.length x = pre ++ x :: t := by
  rw [List.set_append, if_neg (Nat.lt_irrefl _), Nat.sub_self]; rfl
theorem get_mid {α : Type} (pre : List α) (u : α) (t : List α) : (pre ++ u :: t)[pre.length]? = some u := by
  rw [List.getElem?_append_right (Nat.le_refl _), Nat.sub_self]; rfl
theorem w_S_crash2 {K : Cx} {g : GG} {N0 : Nat → Prop} {post : Option Value → Mp → Prop} {xp : String → Mp → Prop} {mc ms : Nat} (X : Fx K g N0 b_S_crash 6 "SnapshotStore" { frames := 1, cells := mc, slots := ms, locals := 22 } (some .int) "crash" []) {s ta : Nat} {sf nt : Int32} {kl : LK} : ∀ (k j : Nat) (rest pre : List CT) (h : Mp) (m : Nat) (z : Option Value), j + k = 120 → pre.length ≤ j → (rest ≠ [] → pre.length = j) → World g s ta h sf sf nt kl (pre ++ rest) → (∀ h', World g s ta h' sf sf nt kl (pre ++ rest.map (craT sf)) → post (some (.int (nI (m + rest.countP (craL sf))))) h') → V K g N0 6 (RQ K g N0 post xp mc ms)  h 0 0 50 [some (va_rf (some s)), some (.int (nI m)), some (va_rf (some ta)), some (.int (nI 120)), some (.int (nI j)), z] [] := by
  intro k
  induction k with
  | zero =>
    intro j rest pre h m z hj hpl hpr w hp
    have hj : j = 120 := by omega
    subst hj
    have hr : rest = [] := by
      have := w.len
      rw [List.length_append] at this
      cases rest with
      | nil => rfl
      | cons u t => have := hpr (by simp); simp at *; omega
    subst hr
    refine il_4 X d_S_crash_50 ?_
    refine il_3 X d_S_crash_52 ?_
    refine V_icmp_ge (tgt := 125) X d_S_crash_53 (by decide) (fun c_53 => ?_) (fun c_53 => ?_)
    · refine il_1 X d_S_crash_125 ?_
      refine V_iret X rfl d_S_crash_126 (by first | omega | decide | (dsimp only; first | done | omega)) (by first | omega | decide | (dsimp only; first | done | omega)) ?_
      exact hp h w
    · exact absurd (Int32.le_refl _) c_53
  | succ k ih =>
    intro j rest pre h m z hj hpl hpr w hp
    obtain ⟨f, hq, hf⟩ := w.ha
    have hs := w.hs
    refine il_4 X d_S_crash_50 ?_
    refine il_3 X d_S_crash_52 ?_
    refine V_icmp_ge (tgt := 125) X d_S_crash_53 (by decide) (fun c_53 => ?_) (fun c_53 => ?_)
    · exact absurd c_53 (nI_ge (by omega) (by decide))
    · refine al_2 X d_S_crash_56 ?_
      refine il_4 X d_S_crash_57 ?_
      refine V_aald X hq rfl (show j < 120 by omega) (by decide) d_S_crash_59 ?_
      rw [hf.2 j (by omega)]
      refine as_5 X d_S_crash_60 rfl (by first | exact okp_n | exact okp_i | exact okp_r) ?_
      refine al_5 X d_S_crash_62 ?_
      cases rest with
      | nil =>
        have hn : (pre ++ [])[j]? = none := List.getElem?_eq_none_iff.mpr (by simpa using hpl)
        rw [hn]
        dsimp only [Option.map_none]
        refine V_ifnull (tgt := 84) X d_S_crash_64 (by decide) (fun c_64 => ?_) (fun b_64 c_64 => ?_)
        · refine al_5 X d_S_crash_84 ?_
          refine V_ifnull (tgt := 119) X d_S_crash_86 (by decide) (fun c_86 => ?_) (fun b_86 c_86 => ?_)
          · refine ic_4 (v := (nI (j+1))) X d_S_crash_119 (nI_1 j) rfl (by first | exact okp_n | exact okp_i | exact okp_r) ?_
            refine V_goto (tgt := 50) X d_S_crash_122 (by decide) ?_
            exact ih (j + 1) [] pre h m _ (by omega) (by omega) (fun z => absurd rfl z) w hp
          · cases c_86
        · cases c_64
      | cons u t =>
        have hpj := hpr (by simp)
        subst hpj
        rw [get_mid]
        have hu := w.hu u (List.mem_append_right _ List.mem_cons_self)
        have hti := get_mid pre u t
        obtain ⟨a, lv, sn, se, sp, ha, ws, rs, ps⟩ := u
        obtain ⟨u1, u2, u3, u4⟩ := hu
        dsimp only [Option.map_some]
        have el : ∀ (x : CT) (l : List CT), pre ++ x :: l = (pre ++ [x]) ++ l := fun x l => by simp
        have fin : ∀ (h2 : Mp) (m2 : Nat) (c0 s0 : Nat), c0 ≤ 0 → s0 ≤ 0 → (m2 = m + if craL sf (a, lv, sn, se, sp, ha, ws, rs, ps) then 1 else 0) → World g s ta h2 sf sf nt kl (pre ++ craT sf (a, lv, sn, se, sp, ha, ws, rs, ps) :: t) → V K g N0 6 (RQ K g N0 post xp mc ms) h2 c0 s0 119 [some (va_rf (some s)), some (.int (nI m2)), some (va_rf (some ta)), some (.int (nI 120)), some (.int (nI pre.length)), some (va_rf (some a))] [] := by
          intro h2 m2 c0 s0 hc0 hs0 hm2 w2
          obtain rfl : c0 = 0 := by omega
          obtain rfl : s0 = 0 := by omega
          refine ic_4 (v := (nI (pre.length+1))) X d_S_crash_119 (nI_1 _) rfl (by first | exact okp_n | exact okp_i | exact okp_r) ?_
          refine V_goto (tgt := 50) X d_S_crash_122 (by decide) ?_
          refine ih (pre.length + 1) t (pre ++ [craT sf (a, lv, sn, se, sp, ha, ws, rs, ps)]) h2 m2 _ (by omega) (by simp) (fun _ => by simp) (by rw [← el]; exact w2) (fun h3 w3 => ?_)
          have hh := hp h3 (by rw [List.map_cons, el]; exact w3)
          rw [List.countP_cons] at hh
          have e : m2 + t.countP (craL sf) = m + (t.countP (craL sf) + if craL sf (a, lv, sn, se, sp, ha, ws, rs, ps) = true then 1 else 0) := by omega
          rwa [e]
        refine V_ifnull (tgt := 84) X d_S_crash_64 (by decide) (fun c_64 => ?_) (fun b_64 c_64 => ?_)
        · cases c_64
        · refine al_5 X d_S_crash_67 ?_
          refine gf_S_160 X (by assumption) d_S_crash_69 ?_
          refine V_if_ne (tgt := 84) X d_S_crash_72 (by decide) (fun c_72 => ?_) (fun c_72 => ?_)
          · refine al_5 X d_S_crash_84 ?_
            refine V_ifnull (tgt := 119) X d_S_crash_86 (by decide) (fun c_86 => ?_) (fun b_86 c_86 => ?_)
            · cases c_86
            · refine al_5 X d_S_crash_89 ?_
              refine gf_S_160 X (by assumption) d_S_crash_91 ?_
              refine V_iconst (v := 1) X d_S_crash_94 (by decide) ?_
              refine V_icmp_ne (tgt := 119) X d_S_crash_95 (by decide) (fun c_95 => ?_) (fun c_95 => ?_)
              · refine fin h m _ _ (by omega) (by omega) (by simp [craL, ctS, c_95]) ?_
                rw [craT, if_neg (by exact c_72), if_neg (fun q => c_95 q.1)]
                exact w
              · refine al_5 X d_S_crash_98 ?_
                refine gf_S_135 X (by assumption) d_S_crash_100 ?_
                refine al_0 X d_S_crash_103 ?_
                refine gf_S_149 X (by assumption) d_S_crash_104 ?_
                refine V_icmp_le (tgt := 119) X d_S_crash_107 (by decide) (fun c_107 => ?_) (fun c_107 => ?_)
                · refine fin h m _ _ (by omega) (by omega) (by simp [craL, ctS, Int32.not_lt.mpr c_107]) ?_
                  rw [craT, if_neg (by exact c_72), if_neg (fun q => absurd q.2 (Int32.not_lt.mpr c_107))]
                  exact w
                · refine al_5 X d_S_crash_110 ?_
                  refine V_iconst (v := 3) X d_S_crash_112 (by decide) ?_
                  refine cl_S_117 X (c_Tx_end _ g N0 h 3 u1) (by assumption) d_S_crash_113 (by refine ⟨?_, ?_⟩ <;> first | decide | (dsimp only; first | done | omega)) (by first | decide | (simp only [List.map, rf_cat, cat_i, cat_l, List.sum_cons, List.sum_nil]; first | done | decide | omega)) ⟨(by first | omega | decide | (dsimp only; first | done | omega)), (by first | omega | decide | (dsimp only; first | done | omega))⟩ (fun _ _ z => z.elim) ?_
                  rintro h2 rfl
                  refine ic_1 (v := (nI (m+1))) X d_S_crash_116 (nI_1 m) rfl (by first | exact okp_n | exact okp_i | exact okp_r) ?_
                  refine fin _ (m + 1) _ _ (by omega) (by omega) (by simp [craL, ctS, c_95, Int32.not_le.mp c_107]) ?_
                  have w2 := w.endT hti 3
                  rw [set_mid] at w2
                  rw [craT, if_neg (by exact c_72), if_pos ⟨c_95, Int32.not_le.mp c_107⟩]
                  exact w2
          · refine al_5 X d_S_crash_75 ?_
            refine V_iconst (v := 2) X d_S_crash_77 (by decide) ?_
            refine cl_S_117 X (c_Tx_end _ g N0 h 2 u1) (by assumption) d_S_crash_78 (by refine ⟨?_, ?_⟩ <;> first | decide | (dsimp only; first | done | omega)) (by first | decide | (simp only [List.map, rf_cat, cat_i, cat_l, List.sum_cons, List.sum_nil]; first | done | decide | omega)) ⟨(by first | omega | decide | (dsimp only; first | done | omega)), (by first | omega | decide | (dsimp only; first | done | omega))⟩ (fun _ _ z => z.elim) ?_
            rintro h2 rfl
            refine V_goto (tgt := 119) X d_S_crash_81 (by decide) ?_
            refine fin _ m _ _ (by omega) (by omega) ?_ ?_
            · have : craL sf (a, lv, sn, se, sp, ha, ws, rs, ps) = false := by simp [craL, ctS, c_72]
              simp [this]
            · have w2 := w.endT hti 2
              rw [set_mid] at w2
              rw [craT, if_pos (by exact c_72)]
              exact w2
theorem c_S_crash (l : Launch) (g : GG) (N0 : Nat → Prop) (h : Mp) {s ta : Nat} {ck sf nt : Int32} {kl : LK} {tl : List CT} (w : World g s ta h ck sf nt kl tl) : Ct l y_S_crash b_S_crash 6 (some .int) 1 22 0 0 g N0 h [va_rf (some s)] (pI (fun r h' => r = nI (tl.countP (craL sf)) ∧ World g s ta h' sf sf nt (kl.map (craK sf)) (tl.map (craT sf)))) nox := by
  refine Ct_of "SnapshotStore" "crash" [some (va_rf (some s)), none, none, none, none, none] (by decide) rfl rfl (by simp [lg_sl, rf_cat, cat_i, cat_l]) (by simp [toL, lv_args, rf_cat, cat_i, cat_l]) (fun K hl X => ?_)
  have hs := w.hs
  refine al_0 X d_S_crash_0 ?_
  refine al_0 X d_S_crash_1 ?_
  refine gf_S_149 X (by assumption) d_S_crash_2 ?_
  refine pf_S_31 X (by assumption) d_S_crash_5 ?_
  have w1 := w.setS sf sf nt w.hv
  have hs1 := w1.hs
  refine al_0 X d_S_crash_8 ?_
  refine gf_S_63 X hs1 d_S_crash_9 ?_
  refine as_1 X d_S_crash_12 rfl (by first | exact okp_n | exact okp_i | exact okp_r) ?_
  refine w_S_crash1 (post := fun _ _ => True) (xp := nox) X kl [] _ w1 (fun h2 w2 => ?_)
  rw [List.nil_append] at w2
  have w3 : World g s ta h2 sf sf nt (kl.map (craK sf)) tl := by
    obtain ⟨x1, x2, x3, x4, x5, x6, x7, -⟩ := w2
    refine ⟨x1, x2, x3, x4, x5, x6, x7, fun k hk => ?_⟩
    obtain ⟨y, hy, rfl⟩ := List.mem_map.mp hk
    exact vord_drop (w.hv y hy)
  obtain ⟨f, hq, hf⟩ := w3.ha
  have hs2 := w3.hs
  refine V_iconst (v := 0) X d_S_crash_37 (by decide) ?_
  refine is_1 X d_S_crash_38 rfl (by first | exact okp_n | exact okp_i | exact okp_r) ?_
  refine al_0 X d_S_crash_39 ?_
  refine gf_S_11 X (by assumption) d_S_crash_40 ?_
  refine as_2 X d_S_crash_43 rfl (by first | exact okp_n | exact okp_i | exact okp_r) ?_
  refine al_2 X d_S_crash_44 ?_
  refine V_alen X 3 hq rfl d_S_crash_45 ?_
  refine is_3 X d_S_crash_46 rfl (by first | exact okp_n | exact okp_i | exact okp_r) ?_
  refine V_iconst (v := 0) X d_S_crash_47 (by decide) ?_
  refine is_4 X d_S_crash_48 rfl (by first | exact okp_n | exact okp_i | exact okp_r) ?_
  exact w_S_crash2 X 120 0 tl [] h2 0 _ rfl (Nat.le_refl _) (fun _ => rfl) w3 (fun h' w' => ⟨_, rfl, by rw [Nat.zero_add], w'⟩)
theorem c_S_init (l : Launch) (g : GG) (N0 : Nat → Prop) (h : Mp) {s : Nat} (hs : h s = some (cS none 0 0 0 0 none)) : Ci l y_S_init b_S_init 1 1 20 1 120 g N0 h [va_rf (some s)] (fun h' => ∃ ta, World g s ta h' 0 0 0 [] []) := by
  refine Ci_of "SnapshotStore" [some (va_rf (some s))] (by decide) rfl rfl (by simp [lg_sl, rf_cat, cat_i, cat_l]) (by simp [toL, lv_args, rf_cat, cat_i, cat_l]) (fun K hl X => ?_)
  refine al_0 X d_S_init_0 ?_
  refine oi_S_1 X d_S_init_1 (by decide) (by first | decide | simp) ?_
  refine al_0 X d_S_init_4 ?_
  refine V_bipush (v := 120) X d_S_init_5 (by decide) ?_
  refine V_newQ (N := 120) X k_23 rfl (by decide) (by first | omega | decide | (dsimp only; first | done | omega)) (by first | omega | decide | (dsimp only; first | done | omega)) d_S_init_7 (fun q hq => ?_)
  have k1 : (mUp h q (qarr g (fun _ => none))) s = some (cS none 0 0 0 0 none) := by rw [mUp_n _ _ (mUp_nn hq hs)]; exact hs
  refine pf_S_11 X (by assumption) d_S_init_10 ?_
  refine V_vretI X rfl d_S_init_13 (by first | omega | decide | (dsimp only; first | done | omega)) (by first | omega | decide | (dsimp only; first | done | omega)) ?_
  refine ⟨q, ?_, ⟨fun _ => none, ?_, ?_⟩, trivial, trivial, fun t ht => (nomatch ht), List.nodup_nil, ⟨fun x => x, fun k hk => (nomatch hk)⟩, fun k hk => (nomatch hk)⟩
  · rw [mUp_s]; rfl
  · rw [mUp_n _ _ (Ne.symm (mUp_nn hq hs))]; exact mUp_s _ _ _
  · exact ⟨by decide, fun i hi => rfl⟩

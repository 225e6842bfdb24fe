-- vacuum: versions cut out of a key's chain
theorem chain_avoid {α : Type} {cell : α → Option Nat → va_E} {h : Mp} {q : Nat} {e : va_E} : ∀ {l : List (Nat × α)}, chain cell h l → (∀ y ∈ l, y.1 ≠ q) → chain cell (mUp h q e) l
  | [], _, _ => trivial
  | (a, x) :: t, hc, hn => ⟨by rw [mUp_n _ _ (hn _ List.mem_cons_self)]; exact hc.1, chain_avoid hc.2 (fun y hy => hn y (List.mem_cons_of_mem _ hy))⟩
theorem chain_cell {h : Mp} : ∀ {l : LV}, chain cVer h l → ∀ {y : Nat × Int32 × Int64}, y ∈ l → ∃ nx, h y.1 = some (cVer y.2 nx)
  | [], _, _, hy => by cases hy
  | (a, x) :: t, hc, y, hy => by
    rcases List.mem_cons.mp hy with rfl | hy
    · exact ⟨_, hc.1⟩
    · exact chain_cell hc.2 hy
theorem chain_ne {h : Mp} {l l2 : LV} (hc : chain cVer h l) (hc2 : chain cVer h l2) {x y : Nat × Int32 × Int64} (hx : x ∈ l) (hy : y ∈ l2) (hne : y.2.1 ≠ x.2.1) : y.1 ≠ x.1 := by
  obtain ⟨n1, h1⟩ := chain_cell hc hx
  obtain ⟨n2, h2⟩ := chain_cell hc2 hy
  intro e
  rw [e, h1] at h2
  simp only [Option.some.injEq, Sum.inr.injEq, Prod.mk.injEq, List.cons.injEq, Value.int.injEq] at h2
  exact hne h2.2.1.symm
theorem vord_lt {c : Int32} : ∀ {t : LV} {x : Nat × Int32 × Int64}, vord c (x :: t) → ∀ y ∈ t, y.2.1 < x.2.1
  | [], _, _, _, hy => by cases hy
  | z :: t, x, hv, y, hy => by
    have h1 : z.2.1 < x.2.1 := hv.2.1 z rfl
    rcases List.mem_cons.mp hy with rfl | hy
    · exact h1
    · exact Int32.lt_trans (vord_lt hv.2.2 y hy) h1
theorem vord_tail {c : Int32} : ∀ {d : LV} {t : LV}, vord c (d ++ t) → vord c t
  | [], _, hv => hv
  | _ :: d, _, hv => vord_tail (d := d) hv.2.2
theorem vord_head {c : Int32} : ∀ {d : LV} {x : Nat × Int32 × Int64} {t : LV}, vord c (d ++ x :: t) → ∀ y ∈ d, x.2.1 < y.2.1
  | [], _, _, _, _, hy => by cases hy
  | z :: d, x, t, hv, y, hy => by
    rcases List.mem_cons.mp hy with rfl | hy
    · exact vord_lt hv x (List.mem_append_right _ List.mem_cons_self)
    · exact vord_head hv.2.2 y hy
theorem vord_cut {c : Int32} : ∀ {d : LV} {v : Nat × Int32 × Int64} {t : LV}, vord c (d ++ v :: t) → vord c (d ++ t)
  | [], _, _, hv => hv.2.2
  | z :: d, v, t, hv => by
    refine ⟨hv.1, fun y hy => ?_, vord_cut hv.2.2⟩
    have hm : y ∈ d ++ t := by
      have h2 : (d ++ t).head? = some y := hy
      exact List.mem_of_mem_head? h2
    refine vord_lt hv y ?_
    rcases List.mem_append.mp hm with hm | hm
    · exact List.mem_append_left _ hm
    · exact List.mem_append_right _ (List.mem_cons_of_mem _ hm)
theorem chain_app {h : Mp} : ∀ {d t : LV}, chain cVer h (d ++ t) → chain cVer h t
  | [], _, hc => hc
  | _ :: d, _, hc => chain_app (d := d) hc.2
theorem ptr_app {α : Type} (d : List (Nat × α)) (x : Nat × α) (t u : List (Nat × α)) : ptr (d ++ x :: t) = ptr (d ++ x :: u) := by cases d <;> rfl
theorem chain_cut {h : Mp} {x v : Nat × Int32 × Int64} {rest : LV} : ∀ {d : LV}, chain cVer h (d ++ x :: v :: rest) → (∀ y ∈ d, y.1 ≠ x.1) → (∀ y ∈ rest, y.1 ≠ x.1) → chain cVer (mUp h x.1 (cVer x.2 (ptr rest))) (d ++ x :: rest)
  | [], hc, _, hr => ⟨mUp_s _ _ _, chain_avoid hc.2.2 hr⟩
  | z :: d, hc, hd, hr => by
    refine ⟨?_, chain_cut hc.2 (fun y hy => hd y (List.mem_cons_of_mem _ hy)) hr⟩
    rw [mUp_n _ _ (hd _ List.mem_cons_self)]
    have h1 : h z.1 = some (cVer z.2 (ptr (d ++ x :: v :: rest))) := hc.1
    rw [ptr_app d x (v :: rest) rest] at h1
    exact h1
theorem keys_cut {h : Mp} {b : Nat} {n : Int32} {d : LV} {x v : Nat × Int32 × Int64} {rest : LV} {ow : Nat → Nat} {c : Int32} (hvo : vord c (d ++ x :: v :: rest)) (hxb : ow x.1 = b) : ∀ {kl : LK}, keys h kl → ksorted kl → vowned ow kl → (b, n, d ++ x :: v :: rest) ∈ kl → keys (mUp h x.1 (cVer x.2 (ptr rest))) (kset n (d ++ x :: rest) kl)
  | [], _, _, _, hm => by cases hm
  | (a, m, us) :: t, hk, hs, ho, hm => by
    show keys _ ((if m = n then (a, m, d ++ x :: rest) else (a, m, us)) :: kset n (d ++ x :: rest) t)
    have avoid : ∀ kt : LK, keys h kt → vowned ow kt → (∀ k ∈ kt, k.1 ≠ b) → keys (mUp h x.1 (cVer x.2 (ptr rest))) kt := by
      obtain ⟨-, -, hcx⟩ := keys_mem hk hm
      obtain ⟨nx, hcell⟩ := chain_cell hcx (y := x) (List.mem_append_right _ List.mem_cons_self)
      intro kt
      induction kt with
      | nil => intro _ _ _; trivial
      | cons k kt ih =>
        obtain ⟨ka, km, ku⟩ := k
        intro hk2 ho2 hn2
        have hka : ka ≠ x.1 := mUp_ne hcell hk2.1 (by intro z; cases z)
        refine ⟨by rw [mUp_n _ _ hka]; exact hk2.1, chain_avoid hk2.2.1 (fun y hy e => ?_), ih hk2.2.2 (fun k hk => ho2 k (List.mem_cons_of_mem _ hk)) (fun k hk => hn2 k (List.mem_cons_of_mem _ hk))⟩
        have h1 : ow y.1 = ka := ho2 _ List.mem_cons_self y hy
        rw [e, hxb] at h1
        exact hn2 _ List.mem_cons_self h1.symm
    rcases List.mem_cons.mp hm with e | hm2
    · cases e
      have hnt : ∀ k ∈ t, k.2.1 ≠ n := fun k hk => (Int32.ne_of_lt (hs.1 k hk)).symm
      rw [if_pos rfl, kset_id hnt]
      have hcx := hk.2.1
      obtain ⟨nx, hcell⟩ := chain_cell hcx (y := x) (List.mem_append_right _ List.mem_cons_self)
      have hbx : b ≠ x.1 := mUp_ne hcell hk.1 (by intro z; cases z)
      have hdx : ∀ y ∈ d, y.1 ≠ x.1 := fun y hy => chain_ne hcx hcx (List.mem_append_right _ List.mem_cons_self) (List.mem_append_left _ hy) (Int32.ne_of_lt (vord_head hvo y hy)).symm
      have hrx : ∀ y ∈ rest, y.1 ≠ x.1 := fun y hy => chain_ne hcx hcx (List.mem_append_right _ List.mem_cons_self) (List.mem_append_right _ (List.mem_cons_of_mem _ (List.mem_cons_of_mem _ hy))) (Int32.ne_of_lt (vord_lt (vord_tail hvo) y (List.mem_cons_of_mem _ hy)))
      refine ⟨?_, chain_cut hcx hdx hrx, avoid t hk.2.2 (fun k hk => ho k (List.mem_cons_of_mem _ hk)) (fun k hkm => keys_inj hk (List.mem_cons_of_mem _ hkm) List.mem_cons_self (hnt k hkm))⟩
      rw [mUp_n _ _ hbx, ptr_app d x rest (v :: rest)]
      exact hk.1
    · have hmn : m ≠ n := Int32.ne_of_lt (hs.1 _ hm2)
      rw [if_neg hmn]
      have hab : a ≠ b := keys_inj hk (x := (a, m, us)) (y := (b, n, d ++ x :: v :: rest)) List.mem_cons_self hm hmn
      obtain ⟨-, -, hcx⟩ := keys_mem hk hm
      obtain ⟨nx, hcell⟩ := chain_cell hcx (y := x) (List.mem_append_right _ List.mem_cons_self)
      have hka : a ≠ x.1 := mUp_ne hcell hk.1 (by intro z; cases z)
      refine ⟨by rw [mUp_n _ _ hka, kset_ptr]; exact hk.1, chain_avoid hk.2.1 (fun y hy e => ?_), keys_cut hvo hxb hk.2.2 hs.2 (fun k hk => ho k (List.mem_cons_of_mem _ hk)) hm2⟩
      have h1 : ow y.1 = a := ho _ List.mem_cons_self y hy
      rw [e, hxb] at h1
      exact hab h1.symm
theorem vowned_sub {ow : Nat → Nat} {kl : LK} (ho : vowned ow kl) (hs : ksorted kl) {b : Nat} {n : Int32} {vs vs' : LV} (hx : (b, n, vs) ∈ kl) (hsub : ∀ v ∈ vs', v ∈ vs) : vowned ow (kset n vs' kl) := by
  intro k hk v hv
  obtain ⟨y, hy, e1, e2, ⟨e3, e4⟩ | ⟨-, e4⟩⟩ := kset_mem hk
  · have : y = (b, n, vs) := ks_uniq hs hy hx e3
    subst this
    rw [e4] at hv
    rw [e1]
    exact ho _ hx v (hsub v hv)
  · rw [e4] at hv ⊢
    exact ho y hy v hv
/-- a version goes that isn't its key's newest -/
theorem WorldV.cut {vb : Int32} {g : GG} {s ta : Nat} {h : Mp} {ck sf nt : Int32} {kl : LK} {tl : List CT} (w : WorldV vb g s ta h ck sf nt kl tl) {b : Nat} {n : Int32} {d : LV} {x v : Nat × Int32 × Int64} {rest : LV} (hm : (b, n, d ++ x :: v :: rest) ∈ kl) : WorldV vb g s ta (mUp h x.1 (cVer x.2 (ptr rest))) ck sf nt (kset n (d ++ x :: rest) kl) tl := by
  obtain ⟨f, ha, hf⟩ := w.ha
  obtain ⟨ow, ho⟩ := w.hw
  obtain ⟨-, -, hcx⟩ := keys_mem w.hk hm
  obtain ⟨nx, hcell⟩ := chain_cell hcx (y := x) (List.mem_append_right _ List.mem_cons_self)
  have hvo := w.hv _ hm
  have hn : ∀ c, 4 ≠ c → ∀ e0, h x.1 = some e0 → kd e0 ≠ c := fun c hc => no_kd hcell hc
  have hsub : ∀ y ∈ d ++ x :: rest, y ∈ d ++ x :: v :: rest := fun y hy => by
    rcases List.mem_append.mp hy with hy | hy
    · exact List.mem_append_left _ hy
    · rcases List.mem_cons.mp hy with rfl | hy
      · exact List.mem_append_right _ List.mem_cons_self
      · exact List.mem_append_right _ (List.mem_cons_of_mem _ (List.mem_cons_of_mem _ hy))
  refine ⟨by rw [mUp_n _ _ (mUp_ne hcell w.hs (by intro z; cases z)), kset_ptr]; exact w.hs, ⟨f, by rw [mUp_n _ _ (mUp_ne hcell ha (by intro z; cases z))]; exact ha, hf⟩, keys_cut hvo (ho _ hm x (List.mem_append_right _ List.mem_cons_self)) w.hk w.ho ho hm, kset_sorted w.ho, fun t ht => txOk_up (hn 1 (by decide)) (hn 2 (by decide)) (hn 5 (by decide)) (txOk_ne (hn 3 (by decide)) (w.hu t ht)) (w.hu t ht), w.hd, ⟨ow, vowned_sub ho w.ho hm hsub⟩, fun k hk => ?_⟩
  obtain ⟨y, hy, -, -, ⟨-, e⟩ | ⟨-, e⟩⟩ := kset_mem hk
  · rw [e]
    have h2 : vord vb ((d ++ [x]) ++ v :: rest) := by simpa using hvo
    have h3 := vord_cut h2
    simpa using h3
  · rw [e]; exact w.hv y hy
/-- the newest one goes -/
theorem WorldV.cutHead {vb : Int32} {g : GG} {s ta : Nat} {h : Mp} {ck sf nt : Int32} {kl : LK} {tl : List CT} (w : WorldV vb g s ta h ck sf nt kl tl) {b : Nat} {n : Int32} {v : Nat × Int32 × Int64} {rest : LV} {nx : Option Nat} (hm : (b, n, v :: rest) ∈ kl) (hb : h b = some (cKey (n, ptr (v :: rest)) nx)) : WorldV vb g s ta (mUp h b (cKey (n, ptr rest) nx)) ck sf nt (kset n rest kl) tl := by
  obtain ⟨ow, ho⟩ := w.hw
  obtain ⟨-, -, hcx⟩ := keys_mem w.hk hm
  exact w.setK hm hb hcx.2 ⟨ow, vowned_sub ho w.ho hm (fun y hy => List.mem_cons_of_mem _ hy)⟩ (w.hv _ hm).2.2
theorem kset_kset (n : Int32) (a b : LV) (kl : LK) : kset n a (kset n b kl) = kset n a kl := by
  simp only [kset, List.map_map]
  apply List.map_congr_left
  intro k _
  simp only [Function.comp]
  by_cases e : k.2.1 = n <;> simp [e]
theorem kset_in {n : Int32} {vs' : LV} {kl : LK} {b : Nat} {vs : LV} (hx : (b, n, vs) ∈ kl) : (b, n, vs') ∈ kset n vs' kl := List.mem_map.mpr ⟨_, hx, by simp⟩
def lastp (d : LV) : Option Nat := d.getLast?.map (·.1)
def look (ck sf : Int32) (tl : List CT) (lo hi : Int32) : Bool := lk lo hi ck || lk lo hi sf || tl.any (pLk lo hi)
def vkeep (p : Int32 → Int32 → Bool) : Int32 → LV → LV
  | _, [] => []
  | nw, (a, s, c) :: t => if p s nw then (a, s, c) :: vkeep p s t else vkeep p s t
theorem vkeep_le (p : Int32 → Int32 → Bool) : ∀ (nw : Int32) (l : LV), (vkeep p nw l).length ≤ l.length
  | _, [] => Nat.le_refl _
  | nw, (a, s, c) :: t => by
    rw [vkeep]
    split
    · simp only [List.length_cons]; have := vkeep_le p s t; omega
    · simp only [List.length_cons]; have := vkeep_le p s t; omega
theorem w_S_dropUnseen {K : Cx} {g : GG} {N0 : Nat → Prop} {post : Option Value → Mp → Prop} {xp : String → Mp → Prop} {mc ms : Nat} (X : Fx K g N0 b_S_dropUnseen 6 "SnapshotStore" { frames := 1, cells := mc, slots := ms, locals := 26 } (some .int) "dropUnseen" []) {s ta b : Nat} {n ck sf nt : Int32} {kl : LK} {tl : List CT} {vs0 : LV} (hb0 : (b, n, vs0) ∈ kl) : ∀ (cur done : LV) (h : Mp) (nw : Int32) (m : Nat), World g s ta h ck sf nt (kset n (done ++ cur) kl) tl → (∀ h', World g s ta h' ck sf nt (kset n (done ++ vkeep (look ck sf tl) nw cur) kl) tl → post (some (.int (nI (m + (cur.length - (vkeep (look ck sf tl) nw cur).length))))) h') → V K g N0 6 (RQ K g N0 post xp mc ms)  h 0 0 14 [some (va_rf (some s)), some (va_rf (some b)), some (.int (nI m)), some (.int nw), some (va_rf (lastp done)), some (va_rf (ptr cur))] [] := by
  intro cur
  induction cur with
  | nil =>
    intro done h nw m w hp
    refine al_5 X d_S_dropUnseen_14 ?_
    refine V_ifnull (tgt := 66) X d_S_dropUnseen_16 (by decide) (fun c_16 => ?_) (fun b_16 c_16 => ?_)
    · refine il_2 X d_S_dropUnseen_66 ?_
      refine V_iret X rfl d_S_dropUnseen_67 (by first | omega | decide | (dsimp only; first | done | omega)) (by first | omega | decide | (dsimp only; first | done | omega)) ?_
      exact hp h w
    · cases c_16
  | cons x t ih =>
    obtain ⟨v, sv, cv⟩ := x
    intro done h nw m w hp
    obtain ⟨f, hq, hf⟩ := w.ha
    have hm := kset_in (vs' := done ++ (v, sv, cv) :: t) hb0
    obtain ⟨nx, hb, hcv⟩ := keys_mem w.hk hm
    have hv1 := (chain_app hcv).1
    dsimp only [ptr]
    refine al_5 X d_S_dropUnseen_14 ?_
    refine V_ifnull (tgt := 66) X d_S_dropUnseen_16 (by decide) (fun c_16 => ?_) (fun b_16 c_16 => ?_)
    · cases c_16
    · refine al_0 X d_S_dropUnseen_19 ?_
      refine al_5 X d_S_dropUnseen_20 ?_
      refine gf_S_241 X (by assumption) d_S_dropUnseen_22 ?_
      refine il_3 X d_S_dropUnseen_25 ?_
      refine cl_S_257 X (c_S_isLookedAt _ g N0 h sv nw w.hs hq hf w.hu) w.hs d_S_dropUnseen_26 (by refine ⟨?_, ?_⟩ <;> first | decide | (dsimp only; first | done | omega)) (by first | decide | (simp only [List.map, rf_cat, cat_i, cat_l, List.sum_cons, List.sum_nil]; first | done | decide | omega)) ⟨(by first | omega | decide | (dsimp only; first | done | omega)), (by first | omega | decide | (dsimp only; first | done | omega))⟩ (fun _ _ z => z.elim) ?_
      rintro r h' ⟨rfl, rfl⟩
      refine V_if_eq (tgt := 39) X d_S_dropUnseen_29 (by decide) (fun c_29 => ?_) (fun c_29 => ?_)
      · have e : look ck sf tl sv nw = false := b01_f c_29
        have ek : vkeep (look ck sf tl) nw ((v, sv, cv) :: t) = vkeep (look ck sf tl) sv t := by rw [vkeep, if_neg (by rw [e]; decide)]
        rw [ek] at hp
        have hle := vkeep_le (look ck sf tl) sv t
        have fin : ∀ h2 : Mp, h2 v = some (cVer (sv, cv) (ptr t)) → World g s ta h2 ck sf nt (kset n (done ++ t) kl) tl → V K g N0 6 (RQ K g N0 post xp mc ms) h2 (0 + 0 + 0) (0 + 0 + 0) 47 [some (va_rf (some s)), some (va_rf (some b)), some (.int (nI m)), some (.int nw), some (va_rf (lastp done)), some (va_rf (some v))] [] := by
          intro h2 hv2 w2
          refine ic_2 (v := (nI (m+1))) X d_S_dropUnseen_47 (nI_1 m) rfl (by first | exact okp_n | exact okp_i | exact okp_r) ?_
          refine al_5 X d_S_dropUnseen_50 ?_
          refine gf_S_241 X (by assumption) d_S_dropUnseen_52 ?_
          refine is_3 X d_S_dropUnseen_55 rfl (by first | exact okp_n | exact okp_i | exact okp_r) ?_
          refine al_5 X d_S_dropUnseen_56 ?_
          refine gf_S_265 X (by assumption) d_S_dropUnseen_58 ?_
          refine as_5 X d_S_dropUnseen_61 rfl (by first | exact okp_n | exact okp_i | exact okp_r) ?_
          refine V_goto (tgt := 14) X d_S_dropUnseen_63 (by decide) ?_
          refine ih done h2 sv (m + 1) w2 (fun h3 w3 => ?_)
          have := hp h3 w3
          rwa [List.length_cons, show m + (t.length + 1 - (vkeep (look ck sf tl) sv t).length) = m + 1 + (t.length - (vkeep (look ck sf tl) sv t).length) by omega] at this
        rcases List.eq_nil_or_concat done with rfl | ⟨d, x, rfl⟩
        · refine al_1 X d_S_dropUnseen_39 ?_
          refine al_5 X d_S_dropUnseen_40 ?_
          refine al_4 X d_S_dropUnseen_42 ?_
          refine cl_S_261 X (c_Key_unlink _ g N0 h' hb hv1 none (fun n hn => by cases hn)) (by assumption) d_S_dropUnseen_44 (by refine ⟨?_, ?_⟩ <;> first | decide | (dsimp only; first | done | omega)) (by first | decide | (simp only [List.map, rf_cat, cat_i, cat_l, List.sum_cons, List.sum_nil]; first | done | decide | omega)) ⟨(by first | omega | decide | (dsimp only; first | done | omega)), (by first | omega | decide | (dsimp only; first | done | omega))⟩ (fun _ _ z => z.elim) ?_
          rintro h2 ⟨hn1, -⟩
          have e2 := hn1 rfl
          subst e2
          have w2 := w.cutHead hm hb
          rw [kset_kset] at w2
          exact fin _ (by rw [mUp_n _ _ (mUp_ne hb hv1 (by intro z; cases z))]; exact hv1) w2
        · obtain ⟨xa, xs, xc⟩ := x
          have el : d ++ [(xa, xs, xc)] ++ (v, sv, cv) :: t = d ++ (xa, xs, xc) :: (v, sv, cv) :: t := by simp
          have el2 : d ++ [(xa, xs, xc)] ++ t = d ++ (xa, xs, xc) :: t := by simp
          have lp : lastp (d ++ [(xa, xs, xc)]) = some xa := by simp [lastp]
          rw [List.concat_eq_append] at *
          rw [el] at hcv hm w
          have hxc := (chain_app hcv).1
          have hvo := w.hv _ hm
          have hne : v ≠ xa := by
            have h1 := chain_ne hcv hcv (x := (xa, xs, xc)) (y := (v, sv, cv)) (List.mem_append_right _ List.mem_cons_self) (List.mem_append_right _ (List.mem_cons_of_mem _ List.mem_cons_self)) (Int32.ne_of_lt (vord_lt (vord_tail hvo) _ List.mem_cons_self))
            exact h1
          rw [lp] at fin ⊢
          refine al_1 X d_S_dropUnseen_39 ?_
          refine al_5 X d_S_dropUnseen_40 ?_
          refine al_4 X d_S_dropUnseen_42 ?_
          refine cl_S_261 X (c_Key_unlink _ g N0 h' hb hv1 (some xa) (fun n hn => by cases hn; exact ⟨_, _, _, hxc⟩)) (by assumption) d_S_dropUnseen_44 (by refine ⟨?_, ?_⟩ <;> first | decide | (dsimp only; first | done | omega)) (by first | decide | (simp only [List.map, rf_cat, cat_i, cat_l, List.sum_cons, List.sum_nil]; first | done | decide | omega)) ⟨(by first | omega | decide | (dsimp only; first | done | omega)), (by first | omega | decide | (dsimp only; first | done | omega))⟩ (fun _ _ z => z.elim) ?_
          rintro h2 ⟨-, hn2⟩
          have e2 := hn2 xa xs xc _ rfl hxc
          subst e2
          have w2 := w.cut hm
          rw [kset_kset, ← el2] at w2
          exact fin _ (by rw [mUp_n _ _ hne]; exact hv1) w2
      · have e : look ck sf tl sv nw = true := b01_t c_29
        have ek : vkeep (look ck sf tl) nw ((v, sv, cv) :: t) = (v, sv, cv) :: vkeep (look ck sf tl) sv t := by rw [vkeep, if_pos e]
        rw [ek] at hp
        have el : ∀ l : LV, done ++ (v, sv, cv) :: l = (done ++ [(v, sv, cv)]) ++ l := fun l => by simp
        refine al_5 X d_S_dropUnseen_32 ?_
        refine as_4 X d_S_dropUnseen_34 rfl (by first | exact okp_n | exact okp_i | exact okp_r) ?_
        refine V_goto (tgt := 50) X d_S_dropUnseen_36 (by decide) ?_
        refine al_5 X d_S_dropUnseen_50 ?_
        refine gf_S_241 X (by assumption) d_S_dropUnseen_52 ?_
        refine is_3 X d_S_dropUnseen_55 rfl (by first | exact okp_n | exact okp_i | exact okp_r) ?_
        refine al_5 X d_S_dropUnseen_56 ?_
        refine gf_S_265 X (by assumption) d_S_dropUnseen_58 ?_
        refine as_5 X d_S_dropUnseen_61 rfl (by first | exact okp_n | exact okp_i | exact okp_r) ?_
        refine V_goto (tgt := 14) X d_S_dropUnseen_63 (by decide) ?_
        have lp : some v = lastp (done ++ [(v, sv, cv)]) := by simp [lastp]
        rw [lp]
        refine ih (done ++ [(v, sv, cv)]) h' sv m (by rw [← el]; exact w) (fun h3 w3 => ?_)
        have := hp h3 (by rw [el]; exact w3)
        rwa [List.length_cons, List.length_cons, Nat.add_sub_add_right] at this
theorem c_S_dropUnseen (l : Launch) (g : GG) (N0 : Nat → Prop) (h : Mp) {s ta b : Nat} {n ck sf nt : Int32} {kl : LK} {tl : List CT} {vs : LV} (hx : (b, n, vs) ∈ kl) (w : World g s ta h ck sf nt kl tl) : Ct l y_S_dropUnseen b_S_dropUnseen 6 (some .int) 1 26 0 0 g N0 h [va_rf (some s), va_rf (some b)] (pI (fun r h' => r = nI (vs.length - (vkeep (look ck sf tl) 2147483647 vs).length) ∧ World g s ta h' ck sf nt (kset n (vkeep (look ck sf tl) 2147483647 vs) kl) tl)) nox := by
  refine Ct_of "SnapshotStore" "dropUnseen" [some (va_rf (some s)), some (va_rf (some b)), none, none, none, none] (by decide) rfl rfl (by simp [lg_sl, rf_cat, cat_i, cat_l]) (by simp [toL, lv_args, rf_cat, cat_i, cat_l]) (fun K hl X => ?_)
  obtain ⟨nx, hb, hcv⟩ := keys_mem w.hk hx
  have hid : kset n vs kl = kl := by
    have : ∀ k ∈ kl, (if k.2.1 = n then (k.1, k.2.1, vs) else k) = k := fun k hk => by
      by_cases e : k.2.1 = n
      · have := ks_uniq w.ho hk hx e
        subst this; simp
      · simp [e]
    rw [kset, List.map_congr_left this, List.map_id']
  refine V_iconst (v := 0) X d_S_dropUnseen_0 (by decide) ?_
  refine is_2 X d_S_dropUnseen_1 rfl (by first | exact okp_n | exact okp_i | exact okp_r) ?_
  refine V_ldc X k_52 d_S_dropUnseen_2 ?_
  refine is_3 X d_S_dropUnseen_4 rfl (by first | exact okp_n | exact okp_i | exact okp_r) ?_
  refine V_null X d_S_dropUnseen_5 ?_
  refine as_4 X d_S_dropUnseen_6 rfl (by first | exact okp_n | exact okp_i | exact okp_r) ?_
  refine al_1 X d_S_dropUnseen_8 ?_
  refine gf_S_156 X (by assumption) d_S_dropUnseen_9 ?_
  refine as_5 X d_S_dropUnseen_12 rfl (by first | exact okp_n | exact okp_i | exact okp_r) ?_
  refine w_S_dropUnseen X hx vs [] h 2147483647 0 (by rw [List.nil_append, hid]; exact w) (fun h' w' => ⟨_, rfl, by rw [Nat.zero_add], w'⟩)

-- the class's world: one object, its array, its keys, its transactions
def kd : va_E → Nat
  | .inl _ => 100
  | .inr (c, _) => c
theorem kd_wr (x : Int32 × Int64 × Int32) (nx : Option Nat) : kd (cWr x nx) = 5 := rfl
theorem kd_rg (x : Int32 × Int32) (nx : Option Nat) : kd (cRng x nx) = 2 := rfl
theorem kd_ve (x : Int32 × Int64) (nx : Option Nat) : kd (cVer x nx) = 4 := rfl
theorem chain_up {α : Type} {cell : α → Option Nat → va_E} {c : Nat} (hc : ∀ x nx, kd (cell x nx) = c) {h : Mp} {b : Nat} {e : va_E} (hb : ∀ e0, h b = some e0 → kd e0 ≠ c) : ∀ {l : List (Nat × α)}, chain cell h l → chain cell (mUp h b e) l
  | [], _ => trivial
  | (a, x) :: t, hl => by
    have hne : a ≠ b := fun q => by subst q; exact hb _ hl.1 (hc _ _)
    exact ⟨by rw [mUp_n h e hne]; exact hl.1, chain_up hc hb hl.2⟩
theorem places_up {h : Mp} {b : Nat} {e : va_E} (h1 : ∀ e0, h b = some e0 → kd e0 ≠ 1) (h5 : ∀ e0, h b = some e0 → kd e0 ≠ 5) : ∀ {l : CP}, places h l → places (mUp h b e) l
  | [], _ => trivial
  | (a, n, wl) :: t, hl => by
    have hne : a ≠ b := fun q => by subst q; exact h1 _ hl.1 rfl
    exact ⟨by rw [mUp_n h e hne]; exact hl.1, chain_up kd_wr h5 hl.2.1, places_up h1 h5 hl.2.2⟩
theorem keys_up {h : Mp} {b : Nat} {e : va_E} (h0 : ∀ e0, h b = some e0 → kd e0 ≠ 0) (h4 : ∀ e0, h b = some e0 → kd e0 ≠ 4) : ∀ {l : LK}, keys h l → keys (mUp h b e) l
  | [], _ => trivial
  | (a, n, vs) :: t, hl => by
    have hne : a ≠ b := fun q => by subst q; exact h0 _ hl.1 rfl
    exact ⟨by rw [mUp_n h e hne]; exact hl.1, chain_up kd_ve h4 hl.2.1, keys_up h0 h4 hl.2.2⟩
theorem txOk_up {h : Mp} {b : Nat} {e : va_E} (h1 : ∀ e0, h b = some e0 → kd e0 ≠ 1) (h2 : ∀ e0, h b = some e0 → kd e0 ≠ 2) (h5 : ∀ e0, h b = some e0 → kd e0 ≠ 5) {t : CT} (hne : t.1 ≠ b) (ht : txOk h t) : txOk (mUp h b e) t := by
  obtain ⟨a, lv, sn, se, sp, ha, ws, rs, ps⟩ := t
  obtain ⟨t1, t2, t3, t4⟩ := ht
  exact ⟨by rw [mUp_n h e hne]; exact t1, chain_up kd_wr h5 t2, chain_up kd_rg h2 t3, places_up h1 h5 t4⟩
theorem txOk_ne {h : Mp} {b : Nat} (h3 : ∀ e0, h b = some e0 → kd e0 ≠ 3) {t : CT} (ht : txOk h t) : t.1 ≠ b := by
  obtain ⟨a, lv, sn, se, sp, ha, ws, rs, ps⟩ := t
  exact fun q => by subst q; exact h3 _ ht.1 rfl
def vowned (ow : Nat → Nat) (kl : LK) : Prop := ∀ k ∈ kl, ∀ v ∈ k.2.2, ow v.1 = k.1
def WorldV (vb : Int32) (g : GG) (s ta : Nat) (h : Mp) (ck sf nt : Int32) (kl : LK) (tl : List CT) : Prop :=
  h s = some (cS (some ta) (nI tl.length) ck sf nt (ptr kl)) ∧ (∃ f, h ta = some (qarr g f) ∧ TA f tl) ∧ keys h kl ∧ ksorted kl ∧ (∀ t ∈ tl, txOk h t) ∧ (tl.map (·.1)).Nodup ∧ (∃ ow, vowned ow kl) ∧ ∀ k ∈ kl, vord vb k.2.2
abbrev World (g : GG) (s ta : Nat) (h : Mp) (ck sf nt : Int32) (kl : LK) (tl : List CT) : Prop := WorldV ck g s ta h ck sf nt kl tl
section WD
variable {vb : Int32} {g : GG} {s ta : Nat} {h : Mp} {ck sf nt : Int32} {kl : LK} {tl : List CT}
theorem WorldV.hs (w : WorldV vb g s ta h ck sf nt kl tl) : h s = some (cS (some ta) (nI tl.length) ck sf nt (ptr kl)) := w.1
theorem WorldV.ha (w : WorldV vb g s ta h ck sf nt kl tl) : ∃ f, h ta = some (qarr g f) ∧ TA f tl := w.2.1
theorem WorldV.hk (w : WorldV vb g s ta h ck sf nt kl tl) : keys h kl := w.2.2.1
theorem WorldV.ho (w : WorldV vb g s ta h ck sf nt kl tl) : ksorted kl := w.2.2.2.1
theorem WorldV.hu (w : WorldV vb g s ta h ck sf nt kl tl) : ∀ t ∈ tl, txOk h t := w.2.2.2.2.1
theorem WorldV.hd (w : WorldV vb g s ta h ck sf nt kl tl) : (tl.map (·.1)).Nodup := w.2.2.2.2.2.1
theorem WorldV.hw (w : WorldV vb g s ta h ck sf nt kl tl) : ∃ ow, vowned ow kl := w.2.2.2.2.2.2.1
theorem WorldV.hv (w : WorldV vb g s ta h ck sf nt kl tl) : ∀ k ∈ kl, vord vb k.2.2 := w.2.2.2.2.2.2.2
theorem WorldV.len (w : WorldV vb g s ta h ck sf nt kl tl) : tl.length ≤ 120 := by
  obtain ⟨f, -, hf⟩ := w.ha
  exact hf.1
theorem no_kd {h : Mp} {b c : Nat} {e0 : va_E} (hb : h b = some e0) (hc : kd e0 ≠ c) : ∀ e1, h b = some e1 → kd e1 ≠ c := fun e1 h1 => by rw [hb] at h1; cases h1; exact hc
theorem no_S {h : Mp} {b c : Nat} {ta : Option Nat} {bg ck sf nt : Int32} {le : Option Nat} (hb : h b = some (cS ta bg ck sf nt le)) (hc : 6 ≠ c) : ∀ e1, h b = some e1 → kd e1 ≠ c := no_kd hb hc
theorem nn_kd {h : Mp} {b c : Nat} (hb : h b = none) : ∀ e1, h b = some e1 → kd e1 ≠ c := fun e1 h1 => by rw [hb] at h1; cases h1
/-- a cell that was not there before -/
theorem WorldV.fresh (w : WorldV vb g s ta h ck sf nt kl tl) {q : Nat} (hq : h q = none) (e : va_E) : WorldV vb g s ta (mUp h q e) ck sf nt kl tl := by
  obtain ⟨f, ha, hf⟩ := w.ha
  refine ⟨by rw [mUp_n h e (mUp_nn hq w.hs)]; exact w.hs, ⟨f, by rw [mUp_n h e (mUp_nn hq ha)]; exact ha, hf⟩, keys_up (nn_kd hq) (nn_kd hq) w.hk, w.ho, fun t ht => txOk_up (nn_kd hq) (nn_kd hq) (nn_kd hq) (txOk_ne (nn_kd hq) (w.hu t ht)) (w.hu t ht), w.hd, w.hw, w.hv⟩
/-- the object's own numbers -/
theorem WorldV.setS (w : WorldV vb g s ta h ck sf nt kl tl) {vb' : Int32} (ck' sf' nt' : Int32) (hv' : ∀ k ∈ kl, vord vb' k.2.2) : WorldV vb' g s ta (mUp h s (cS (some ta) (nI tl.length) ck' sf' nt' (ptr kl))) ck' sf' nt' kl tl := by
  obtain ⟨f, ha, hf⟩ := w.ha
  refine ⟨mUp_s _ _ _, ⟨f, by rw [mUp_n h _ (mUp_ne w.hs ha (by intro q; cases q))]; exact ha, hf⟩, keys_up (no_S w.hs (by decide)) (no_S w.hs (by decide)) w.hk, w.ho, fun t ht => txOk_up (no_S w.hs (by decide)) (no_S w.hs (by decide)) (no_S w.hs (by decide)) (txOk_ne (no_S w.hs (by decide)) (w.hu t ht)) (w.hu t ht), w.hd, w.hw, hv'⟩
theorem tx_cell {h : Mp} {t : CT} (ht : txOk h t) : ∃ e, h t.1 = some e ∧ kd e = 3 := by
  obtain ⟨a, lv, sn, se, sp, ha, ws, rs, ps⟩ := t
  exact ⟨_, ht.1, rfl⟩
theorem map_set_fst {tl : List CT} {i : Nat} {t0 t1 : CT} (e : tl[i]? = some t0) (h1 : t1.1 = t0.1) : (tl.set i t1).map (·.1) = tl.map (·.1) := by
  rw [List.map_set, h1]
  apply List.ext_getElem?
  intro j
  by_cases hj : i = j
  · subst hj
    have hl : i < (tl.map (·.1)).length := by rw [List.length_map]; exact (List.getElem?_eq_some_iff.mp e).1
    rw [List.getElem?_set_self hl, List.getElem?_map, e]
    rfl
  · rw [List.getElem?_set_ne hj]
/-- a transaction's cell is written anew -/
theorem WorldV.setT (w : WorldV vb g s ta h ck sf nt kl tl) {i : Nat} {t0 : CT} (e : tl[i]? = some t0) {lv sn se sp ha : Int32} {ws : LW} {rs : LR} {ps : CP} (hw : chain cWr h ws) (hr : chain cRng h rs) (hp : places h ps) : WorldV vb g s ta (mUp h t0.1 (cTx lv sn se sp ha (ptr ws) (ptr rs) (ptr ps))) ck sf nt kl (tl.set i (t0.1, lv, sn, se, sp, ha, ws, rs, ps)) := by
  obtain ⟨f, hta, hf⟩ := w.ha
  have hm0 : t0 ∈ tl := List.mem_of_getElem? e
  obtain ⟨e0, hc, hk⟩ := tx_cell (w.hu t0 hm0)
  have hn : ∀ c, c ≠ 3 → ∀ e1, h t0.1 = some e1 → kd e1 ≠ c := fun c hc3 => no_kd hc (by rw [hk]; exact Ne.symm hc3)
  have hmap := map_set_fst (t1 := (t0.1, lv, sn, se, sp, ha, ws, rs, ps)) e rfl
  refine ⟨?_, ⟨f, ?_, ?_, ?_⟩, keys_up (hn 0 (by decide)) (hn 4 (by decide)) w.hk, w.ho, fun t ht => ?_, by rw [hmap]; exact w.hd, w.hw, w.hv⟩
  · rw [List.length_set, mUp_n h _ (mUp_ne hc w.hs (by intro q; rw [← q] at hk; cases hk))]
    exact w.hs
  · rw [mUp_n h _ (mUp_ne hc hta (by intro q; rw [← q] at hk; cases hk))]
    exact hta
  · rw [List.length_set]; exact hf.1
  · intro j hj
    rw [hf.2 j hj]
    have := congrArg (fun l => l[j]?) hmap
    simp only [List.getElem?_map] at this
    exact this.symm
  · obtain ⟨j, hj⟩ := List.getElem?_of_mem ht
    by_cases hij : i = j
    · subst hij
      rw [List.getElem?_set_self (List.getElem?_eq_some_iff.mp e).1] at hj
      cases hj
      exact ⟨mUp_s _ _ _, chain_up kd_wr (hn 5 (by decide)) hw, chain_up kd_rg (hn 2 (by decide)) hr, places_up (hn 1 (by decide)) (hn 5 (by decide)) hp⟩
    · rw [List.getElem?_set_ne hij] at hj
      have hne : t.1 ≠ t0.1 := by
        intro q
        have h1 : (tl.map (·.1))[i]? = some t0.1 := by rw [List.getElem?_map, e]; rfl
        have h2 : (tl.map (·.1))[j]? = some t0.1 := by rw [List.getElem?_map, hj]; simp [q]
        have := (List.getElem?_inj (by rw [List.length_map]; exact (List.getElem?_eq_some_iff.mp e).1) w.hd).mp (h1.trans h2.symm)
        exact hij this
      exact txOk_up (hn 1 (by decide)) (hn 2 (by decide)) (hn 5 (by decide)) hne (w.hu t (List.mem_of_getElem? hj))
end WD

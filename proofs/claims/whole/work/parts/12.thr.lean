-- throws of the class; its constructors
theorem mW.kept {g : GG} {N0 : Nat → Prop} {h : Mp} {H H1 : Heap} (hM : mW g N0 h H) (hk : ∀ q : Nat, q < H.size → H1[q]? = H[q]?) : mW g N0 h H1 := by
  obtain ⟨ws, hP, hD, h3⟩ := hM
  exact ⟨ws, hP.kept (fun k q hq => hk q.1 (hP k q hq).lt), hD, h3⟩
def exch : List String := ["java/lang/RuntimeException", "java/lang/Exception"]
def ngw (E : String) : List Cond := .castable E E :: dcls.map (fun x => Cond.declares x)
set_option maxRecDepth 20000 in
theorem hg_1 : ∀ w ∈ (vx_atS "SnapshotStore" 19 "java/lang/IllegalArgumentException" exch).filter goodWord, w ∈ lw_tbl := by decide +kernel
set_option maxRecDepth 20000 in
theorem hg_2 : ∀ w ∈ (vx_atS "SnapshotStore" 30 "java/lang/IllegalStateException" exch).filter goodWord, w ∈ lw_tbl := by decide +kernel
set_option maxRecDepth 20000 in
theorem hg_3 : ∀ w ∈ (vx_atS "SnapshotStore" 198 "java/lang/IndexOutOfBoundsException" exch).filter goodWord, w ∈ lw_tbl := by decide +kernel
set_option maxRecDepth 20000 in
theorem hn_1 : ∀ w ∈ (vx_atS "SnapshotStore" 19 "java/lang/IllegalArgumentException" exch).filter (fun w => !goodWord w), w ∈ ngw "java/lang/IllegalArgumentException" := by decide +kernel
set_option maxRecDepth 20000 in
theorem hn_2 : ∀ w ∈ (vx_atS "SnapshotStore" 30 "java/lang/IllegalStateException" exch).filter (fun w => !goodWord w), w ∈ ngw "java/lang/IllegalStateException" := by decide +kernel
set_option maxRecDepth 20000 in
theorem hn_3 : ∀ w ∈ (vx_atS "SnapshotStore" 198 "java/lang/IndexOutOfBoundsException" exch).filter (fun w => !goodWord w), w ∈ ngw "java/lang/IndexOutOfBoundsException" := by decide +kernel
section TH
variable {K : Cx} {g : GG} {N0 : Nat → Prop} {nL : Nat} {h : Mp} {cells slots pc : Nat} {lv : List (Option Value)} {st : List Value} {cc : ByteArray} {R0 : Room} {rt : Option FieldType} {nm : String}
variable {post : Option Value → Mp → Prop} {xp : String → Mp → Prop} {mc ms : Nat}
theorem V_thr (X : Fx K g N0 cc nL "SnapshotStore" R0 rt nm []) {E text : String} {ik is ic : Nat} (k : Nat) (hs : strs[k]? = some (is, text)) (hE : Bundle.fit E = true) (hEx : E ∈ exNames) (hk : Cond.classLink "SnapshotStore" ik E ∈ TT) (hini : Cond.initialized E ∈ TT)
    (hg : ∀ w ∈ (vx_atS "SnapshotStore" ic E exch).filter goodWord, w ∈ lw_tbl) (hn : ∀ w ∈ (vx_atS "SnapshotStore" ic E exch).filter (fun w => !goodWord w), w ∈ ngw E)
    (d0 : decode cc pc = .ok (.new ik, 3)) (d3 : decode cc (pc + 3) = .ok (.dup, 1)) (d4 : decode cc (pc + 4) = .ok (.ldc is, 2)) (d6 : decode cc (pc + 6) = .ok (.invokespecial ic, 3)) (d9 : decode cc (pc + 9) = .ok (.athrow, 1))
    (hRf : 6 ≤ R0.frames) (hRl : (st.map fun v => v.category).sum + 82 ≤ R0.locals) (hRc : cells + 1 ≤ R0.cells) (hRs : slots + 6 ≤ R0.slots) (hc : cells + 1 ≤ mc) (hs2 : slots + 6 ≤ ms) (hp : xp E h) : V K g N0 nL (RQ K g N0 post xp mc ms) h cells slots pc lv st := by
  intro H locs ls hM hS hl
  obtain ⟨z1, z2, z3, z4, z5, z6, z7, z8⟩ := X.hZ
  obtain ⟨sa, hsa⟩ := z4 k _ hs
  have h3 : ∀ w ∈ ngw E, w.before (Ka K) (Ks K) = true := by
    intro w hw
    rcases List.mem_cons.mp hw with rfl | hw
    · exact va_Nw.use rfl (z6 E hEx)
    · obtain ⟨x, hx, rfl⟩ := List.mem_map.mp hw
      exact va_Nw.use rfl (z8 x hx)
  have hat : ∀ w ∈ vx_atS "SnapshotStore" ic E exch, w.before (Ka K) (Ks K) = true := vx_hat (fun w hw => X.hts w (List.mem_filter.mpr ⟨hg w hw, (List.mem_filter.mp hw).2⟩)) hn h3
  have hgood : ∀ w ∈ Cond.classLink "SnapshotStore" ik E :: Cond.initialized E :: vx_atS "SnapshotStore" ic E exch, vx_ot w = true := by
    intro w hw
    rcases List.mem_cons.mp hw with rfl | hw
    · rfl
    rcases List.mem_cons.mp hw with rfl | hw
    · rfl
    · by_cases hgw : goodWord w = true
      · simp [vx_ot, hgw]
      · have hm := hn w (List.mem_filter.mpr ⟨hw, by simpa using hgw⟩)
        rcases List.mem_cons.mp hm with rfl | hm
        · rfl
        · obtain ⟨x, hx, rfl⟩ := List.mem_map.mp hm
          rfl
  exact vx_throwS (names := exch) X.hx X.hb z1 X.hown hE (by decide) (X.hts _ hk) (X.hts _ hini) hsa hat hgood z2 z3 hS (by rw [hl.1, X.hml]) d0 d3 d4 d6 d9 (by rw [X.hex]; intro x hx; cases hx) (by rw [X.hR]; exact hRf) (by rw [X.hR]; exact hRl) (by rw [X.hR]; exact hRc) (by rw [X.hR]; exact hRs) X.hlocks
    (fun t ha hz hq => ⟨⟨h, hp, hM.kept hq⟩, Nat.le_trans hS.1 hz, fun q h1 h2 => (hq q (Nat.lt_of_lt_of_le h1 hS.1)).trans (hS.2.1 q h1 h2)⟩) hS.2.2 hc hs2
theorem thr_1 (X : Fx K g N0 cc nL "SnapshotStore" R0 rt nm []) {text : String} {is : Nat} (k : Nat) (hs : strs[k]? = some (is, text)) (d0 : decode cc pc = .ok (.new 15, 3)) (d3 : decode cc (pc + 3) = .ok (.dup, 1)) (d4 : decode cc (pc + 4) = .ok (.ldc is, 2)) (d6 : decode cc (pc + 6) = .ok (.invokespecial 19, 3)) (d9 : decode cc (pc + 9) = .ok (.athrow, 1))
    (hRf : 6 ≤ R0.frames) (hRl : (st.map fun v => v.category).sum + 82 ≤ R0.locals) (hRc : cells + 1 ≤ R0.cells) (hRs : slots + 6 ≤ R0.slots) (hc : cells + 1 ≤ mc) (hs2 : slots + 6 ≤ ms) (hp : xp "java/lang/IllegalArgumentException" h) : V K g N0 nL (RQ K g N0 post xp mc ms) h cells slots pc lv st := V_thr X k hs (by decide +kernel) (by decide) k_148 k_6 hg_1 hn_1 d0 d3 d4 d6 d9 hRf hRl hRc hRs hc hs2 hp
theorem thr_2 (X : Fx K g N0 cc nL "SnapshotStore" R0 rt nm []) {text : String} {is : Nat} (k : Nat) (hs : strs[k]? = some (is, text)) (d0 : decode cc pc = .ok (.new 26, 3)) (d3 : decode cc (pc + 3) = .ok (.dup, 1)) (d4 : decode cc (pc + 4) = .ok (.ldc is, 2)) (d6 : decode cc (pc + 6) = .ok (.invokespecial 30, 3)) (d9 : decode cc (pc + 9) = .ok (.athrow, 1))
    (hRf : 6 ≤ R0.frames) (hRl : (st.map fun v => v.category).sum + 82 ≤ R0.locals) (hRc : cells + 1 ≤ R0.cells) (hRs : slots + 6 ≤ R0.slots) (hc : cells + 1 ≤ mc) (hs2 : slots + 6 ≤ ms) (hp : xp "java/lang/IllegalStateException" h) : V K g N0 nL (RQ K g N0 post xp mc ms) h cells slots pc lv st := V_thr X k hs (by decide +kernel) (by decide) k_216 k_7 hg_2 hn_2 d0 d3 d4 d6 d9 hRf hRl hRc hRs hc hs2 hp
theorem thr_3 (X : Fx K g N0 cc nL "SnapshotStore" R0 rt nm []) {text : String} {is : Nat} (k : Nat) (hs : strs[k]? = some (is, text)) (d0 : decode cc pc = .ok (.new 194, 3)) (d3 : decode cc (pc + 3) = .ok (.dup, 1)) (d4 : decode cc (pc + 4) = .ok (.ldc is, 2)) (d6 : decode cc (pc + 6) = .ok (.invokespecial 198, 3)) (d9 : decode cc (pc + 9) = .ok (.athrow, 1))
    (hRf : 6 ≤ R0.frames) (hRl : (st.map fun v => v.category).sum + 82 ≤ R0.locals) (hRc : cells + 1 ≤ R0.cells) (hRs : slots + 6 ≤ R0.slots) (hc : cells + 1 ≤ mc) (hs2 : slots + 6 ≤ ms) (hp : xp "java/lang/IndexOutOfBoundsException" h) : V K g N0 nL (RQ K g N0 post xp mc ms) h cells slots pc lv st := V_thr X k hs (by decide +kernel) (by decide) k_285 k_9 hg_3 hn_3 d0 d3 d4 d6 d9 hRf hRl hRc hRs hc hs2 hp
end TH
-- constructors
theorem c_Key_init (l : Launch) (g : GG) (N0 : Nat → Prop) (h : Mp) {a : Nat} {x0 : Int32} {x1 x2 : Option Nat} (n : Int32) (nx : Option Nat) (hk : h a = some (.inr (0, [.int x0, va_rf x1, va_rf x2]))) : Ci l y_Key_init b_Key_init 3 1 20 0 0 g N0 h [va_rf (some a), .int n, va_rf nx] (fun h' => h' = mUp h a (cKey (n, x2) nx)) := by
  refine Ci_of "SnapshotStore$Key" [some (va_rf (some a)), some (.int n), some (va_rf nx)] (by decide) rfl rfl (by simp [lg_sl, rf_cat, cat_i, cat_l]) (by simp [toL, lv_args, rf_cat, cat_i, cat_l]) (fun K hl X => ?_)
  refine al_0 X d_Key_init_0 ?_
  refine oi_Key_3 X d_Key_init_1 (by decide) (by first | decide | simp) ?_
  refine al_0 X d_Key_init_4 ?_
  refine il_1 X d_Key_init_5 ?_
  refine pf_Key_9 X (by assumption) d_Key_init_6 ?_
  refine al_0 X d_Key_init_9 ?_
  refine al_2 X d_Key_init_10 ?_
  refine pf_Key_15 X (mUp_s _ _ _) d_Key_init_11 ?_
  refine V_vretI X rfl d_Key_init_14 (by first | omega | decide | (dsimp only; first | done | omega)) (by first | omega | decide | (dsimp only; first | done | omega)) ?_
  exact mUp_uu _ _ _ _
theorem c_Range_init (l : Launch) (g : GG) (N0 : Nat → Prop) (h : Mp) {a : Nat} {x0 x1 : Int32} {x2 : Option Nat} (lo hi : Int32) (nx : Option Nat) (hk : h a = some (.inr (2, [.int x0, .int x1, va_rf x2]))) : Ci l y_Range_init b_Range_init 4 1 20 0 0 g N0 h [va_rf (some a), .int lo, .int hi, va_rf nx] (fun h' => h' = mUp h a (cRng (lo, hi) nx)) := by
  refine Ci_of "SnapshotStore$Range" [some (va_rf (some a)), some (.int lo), some (.int hi), some (va_rf nx)] (by decide) rfl rfl (by simp [lg_sl, rf_cat, cat_i, cat_l]) (by simp [toL, lv_args, rf_cat, cat_i, cat_l]) (fun K hl X => ?_)
  refine al_0 X d_Range_init_0 ?_
  refine oi_Range_1 X d_Range_init_1 (by decide) (by first | decide | simp) ?_
  refine al_0 X d_Range_init_4 ?_
  refine il_1 X d_Range_init_5 ?_
  refine pf_Range_7 X (by assumption) d_Range_init_6 ?_
  refine al_0 X d_Range_init_9 ?_
  refine il_2 X d_Range_init_10 ?_
  refine pf_Range_13 X (mUp_s _ _ _) d_Range_init_11 ?_
  refine al_0 X d_Range_init_14 ?_
  refine al_3 X d_Range_init_15 ?_
  refine pf_Range_16 X (mUp_s _ _ _) d_Range_init_16 ?_
  refine V_vretI X rfl d_Range_init_19 (by first | omega | decide | (dsimp only; first | done | omega)) (by first | omega | decide | (dsimp only; first | done | omega)) ?_
  rw [mUp_uu, mUp_uu]
theorem c_Place_init (l : Launch) (g : GG) (N0 : Nat → Prop) (h : Mp) {a : Nat} {x0 : Int32} {x1 x2 : Option Nat} (n : Int32) (lt nx : Option Nat) (hk : h a = some (.inr (1, [.int x0, va_rf x1, va_rf x2]))) : Ci l y_Place_init b_Place_init 4 1 20 0 0 g N0 h [va_rf (some a), .int n, va_rf lt, va_rf nx] (fun h' => h' = mUp h a (cPl (n, lt) nx)) := by
  refine Ci_of "SnapshotStore$Place" [some (va_rf (some a)), some (.int n), some (va_rf lt), some (va_rf nx)] (by decide) rfl rfl (by simp [lg_sl, rf_cat, cat_i, cat_l]) (by simp [toL, lv_args, rf_cat, cat_i, cat_l]) (fun K hl X => ?_)
  refine al_0 X d_Place_init_0 ?_
  refine oi_Place_1 X d_Place_init_1 (by decide) (by first | decide | simp) ?_
  refine al_0 X d_Place_init_4 ?_
  refine il_1 X d_Place_init_5 ?_
  refine pf_Place_7 X (by assumption) d_Place_init_6 ?_
  refine al_0 X d_Place_init_9 ?_
  refine al_2 X d_Place_init_10 ?_
  refine pf_Place_13 X (mUp_s _ _ _) d_Place_init_11 ?_
  refine al_0 X d_Place_init_14 ?_
  refine al_3 X d_Place_init_15 ?_
  refine pf_Place_17 X (mUp_s _ _ _) d_Place_init_16 ?_
  refine V_vretI X rfl d_Place_init_19 (by first | omega | decide | (dsimp only; first | done | omega)) (by first | omega | decide | (dsimp only; first | done | omega)) ?_
  rw [mUp_uu, mUp_uu]
theorem c_Ver_init (l : Launch) (g : GG) (N0 : Nat → Prop) (h : Mp) {a : Nat} {x0 : Int32} {x1 : Int64} {x2 : Option Nat} (s : Int32) (c : Int64) (nx : Option Nat) (hk : h a = some (.inr (4, [.int x0, .long x1, va_rf x2]))) : Ci l y_Ver_init b_Ver_init 5 1 20 0 0 g N0 h [va_rf (some a), .int s, .long c, va_rf nx] (fun h' => h' = mUp h a (cVer (s, c) nx)) := by
  refine Ci_of "SnapshotStore$Version" [some (va_rf (some a)), some (.int s), some (.long c), none, some (va_rf nx)] (by decide) rfl rfl (by simp [lg_sl, rf_cat, cat_i, cat_l]) (by simp [toL, lv_args, rf_cat, cat_i, cat_l]) (fun K hl X => ?_)
  refine al_0 X d_Ver_init_0 ?_
  refine oi_Ver_1 X d_Ver_init_1 (by decide) (by first | decide | simp) ?_
  refine al_0 X d_Ver_init_4 ?_
  refine il_1 X d_Ver_init_5 ?_
  refine pf_Ver_7 X (by assumption) d_Ver_init_6 ?_
  refine al_0 X d_Ver_init_9 ?_
  refine ll_2 X d_Ver_init_10 ?_
  refine pf_Ver_13 X (mUp_s _ _ _) d_Ver_init_11 ?_
  refine al_0 X d_Ver_init_14 ?_
  refine al_4 X d_Ver_init_15 ?_
  refine pf_Ver_17 X (mUp_s _ _ _) d_Ver_init_17 ?_
  refine V_vretI X rfl d_Ver_init_20 (by first | omega | decide | (dsimp only; first | done | omega)) (by first | omega | decide | (dsimp only; first | done | omega)) ?_
  rw [mUp_uu, mUp_uu]
theorem c_Wr_init (l : Launch) (g : GG) (N0 : Nat → Prop) (h : Mp) {a : Nat} {x0 x2 : Int32} {x1 : Int64} {x3 : Option Nat} (n : Int32) (c : Int64) (k : Int32) (nx : Option Nat) (hk : h a = some (.inr (5, [.int x0, .long x1, .int x2, va_rf x3]))) : Ci l y_Wr_init b_Wr_init 6 1 20 0 0 g N0 h [va_rf (some a), .int n, .long c, .int k, va_rf nx] (fun h' => h' = mUp h a (cWr (n, c, k) nx)) := by
  refine Ci_of "SnapshotStore$Write" [some (va_rf (some a)), some (.int n), some (.long c), none, some (.int k), some (va_rf nx)] (by decide) rfl rfl (by simp [lg_sl, rf_cat, cat_i, cat_l]) (by simp [toL, lv_args, rf_cat, cat_i, cat_l]) (fun K hl X => ?_)
  refine al_0 X d_Wr_init_0 ?_
  refine oi_Wr_1 X d_Wr_init_1 (by decide) (by first | decide | simp) ?_
  refine al_0 X d_Wr_init_4 ?_
  refine il_1 X d_Wr_init_5 ?_
  refine pf_Wr_7 X (by assumption) d_Wr_init_6 ?_
  refine al_0 X d_Wr_init_9 ?_
  refine ll_2 X d_Wr_init_10 ?_
  refine pf_Wr_13 X (mUp_s _ _ _) d_Wr_init_11 ?_
  refine al_0 X d_Wr_init_14 ?_
  refine il_4 X d_Wr_init_15 ?_
  refine pf_Wr_17 X (mUp_s _ _ _) d_Wr_init_17 ?_
  refine al_0 X d_Wr_init_20 ?_
  refine al_5 X d_Wr_init_21 ?_
  refine pf_Wr_20 X (mUp_s _ _ _) d_Wr_init_23 ?_
  refine V_vretI X rfl d_Wr_init_26 (by first | omega | decide | (dsimp only; first | done | omega)) (by first | omega | decide | (dsimp only; first | done | omega)) ?_
  rw [mUp_uu, mUp_uu, mUp_uu]
theorem c_Tx_init (l : Launch) (g : GG) (N0 : Nat → Prop) (h : Mp) {a : Nat} {x0 x1 x2 x3 x4 : Int32} {x5 x6 x7 : Option Nat} (lv sn : Int32) (hk : h a = some (.inr (3, [.int x0, .int x1, .int x2, .int x3, .int x4, va_rf x5, va_rf x6, va_rf x7]))) : Ci l y_Tx_init b_Tx_init 3 1 20 0 0 g N0 h [va_rf (some a), .int lv, .int sn] (fun h' => h' = mUp h a (cTx lv sn 0 (-1) x4 x5 x6 x7)) := by
  refine Ci_of "SnapshotStore$Transaction" [some (va_rf (some a)), some (.int lv), some (.int sn)] (by decide) rfl rfl (by simp [lg_sl, rf_cat, cat_i, cat_l]) (by simp [toL, lv_args, rf_cat, cat_i, cat_l]) (fun K hl X => ?_)
  refine al_0 X d_Tx_init_0 ?_
  refine oi_Tx_3 X d_Tx_init_1 (by decide) (by first | decide | simp) ?_
  refine al_0 X d_Tx_init_4 ?_
  refine V_iconst (v := 0) X d_Tx_init_5 (by decide) ?_
  refine pf_Tx_9 X (by assumption) d_Tx_init_6 ?_
  refine al_0 X d_Tx_init_9 ?_
  refine V_iconst (v := (-1)) X d_Tx_init_10 (by decide) ?_
  refine pf_Tx_15 X (mUp_s _ _ _) d_Tx_init_11 ?_
  refine al_0 X d_Tx_init_14 ?_
  refine il_1 X d_Tx_init_15 ?_
  refine pf_Tx_18 X (mUp_s _ _ _) d_Tx_init_16 ?_
  refine al_0 X d_Tx_init_19 ?_
  refine il_2 X d_Tx_init_20 ?_
  refine pf_Tx_21 X (mUp_s _ _ _) d_Tx_init_21 ?_
  refine V_vretI X rfl d_Tx_init_24 (by first | omega | decide | (dsimp only; first | done | omega)) (by first | omega | decide | (dsimp only; first | done | omega)) ?_
  rw [mUp_uu, mUp_uu, mUp_uu]

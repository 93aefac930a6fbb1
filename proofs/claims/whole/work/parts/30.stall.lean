/-! a stall is added -/
def adT (T : Sg) (n : Nat) (kd p g : Int32) : Sg := upr (upr (upr (upr (upr (upr T 3 (upd (T 3) n kd)) 4 (upd (T 4) n p)) 5 (upd (T 5) n g)) 6 (upd (T 6) n 0)) 7 (upd (T 7) n 0)) 0 (upd (T 0) 9 (nI (n + 1)))
theorem ad_0 (T : Sg) (n : Nat) (kd p g : Int32) : adT T n kd p g 0 = upd (T 0) 9 (nI (n + 1)) := rfl
theorem ad_3 (T : Sg) (n : Nat) (kd p g : Int32) : adT T n kd p g 3 = upd (T 3) n kd := rfl
theorem ad_4 (T : Sg) (n : Nat) (kd p g : Int32) : adT T n kd p g 4 = upd (T 4) n p := rfl
theorem ad_5 (T : Sg) (n : Nat) (kd p g : Int32) : adT T n kd p g 5 = upd (T 5) n g := rfl
theorem ad_6 (T : Sg) (n : Nat) (kd p g : Int32) : adT T n kd p g 6 = upd (T 6) n 0 := rfl
theorem ad_7 (T : Sg) (n : Nat) (kd p g : Int32) : adT T n kd p g 7 = upd (T 7) n 0 := rfl
theorem VT_ad {n h : Nat} {T : Sg} (v : VT n h T) (hn : n < 8) {kd p g : Int32} {a b c : Nat} (ha : a < 7) (hb : b < 12) (hc : c ≤ 99) (ea : kd = nI a) (eb : p = nI b) (ec : g = nI c) (free : atN T p n = -1) : VT (n + 1) h (adT T n kd p g) := by
  have fr := atN_neg n v.1.1 free
  obtain ⟨⟨v1, v2, v3, v4⟩, w4, w3, w5, w6, w1, w0, wd, w8⟩ := v
  refine ⟨⟨by omega, v2, ?_, ?_⟩, fun k hk => ?_, fun k hk => ?_, fun k hk => ?_, fun k hk => ?_, w1, ?_, fun i j hi hj e => ?_, fun q hq => ?_⟩
  · rw [ad_0]; exact upd_eq _ _ _
  · rw [ad_0, upd_ne (by decide)]; exact v4
  · rw [ad_4]
    by_cases e : k = n
    · subst e; rw [upd_eq]; exact ⟨b, hb, eb⟩
    · rw [upd_ne e]; exact w4 k hk
  · rw [ad_3]
    by_cases e : k = n
    · subst e; rw [upd_eq]; exact ⟨a, ha, ea⟩
    · rw [upd_ne e]; exact w3 k hk
  · rw [ad_5]
    by_cases e : k = n
    · subst e; rw [upd_eq]; exact ⟨c, hc, ec⟩
    · rw [upd_ne e]; exact w5 k hk
  · rw [ad_6]
    by_cases e : k = n
    · subst e; rw [upd_eq]; exact ⟨0, Nat.zero_le _, rfl⟩
    · rw [upd_ne e]; exact w6 k hk
  · rw [ad_0, upd_ne (by decide)]; exact w0
  · rw [ad_4] at e
    by_cases e1 : i = n
    · by_cases e2 : j = n
      · omega
      · subst e1
        rw [upd_eq, upd_ne e2] at e
        exact absurd e.symm (fr j (by omega))
    · by_cases e2 : j = n
      · subst e2
        rw [upd_eq, upd_ne e1] at e
        exact absurd e (fr i (by omega))
      · rw [upd_ne e1, upd_ne e2] at e
        exact wd i j (by omega) (by omega) e
  · rcases w8 q hq with q1 | ⟨x, hx, q1⟩
    · exact Or.inl q1
    · exact Or.inr ⟨x, by omega, q1⟩
theorem ZT_ad {T : Sg} (z : ZT T) {n : Nat} (hn : n < 8) (kd p g : Int32) : ZT (adT T n kd p g) := by
  obtain ⟨z0, z12, ⟨z3, z4, z5, z6, z7⟩, z8⟩ := z
  refine ⟨fun k hk => ?_, z12, ⟨Zr_upd z3 hn, Zr_upd z4 hn, Zr_upd z5 hn, Zr_upd z6 hn, Zr_upd z7 hn⟩, z8⟩
  rw [ad_0, upd_ne (by omega)]
  exact z0 k hk
theorem put2 {o j : Nat} {T σ : Sg} (hj : j ≤ 8) (k : Nat) (x : Int32) : up2 (putSq o T σ) (o + j) k x = putSq o (upr T j (upd (T j) k x)) σ := by
  have e : putSq o T σ (o + j) = T j := putSq_in hj
  show upr (putSq o T σ) (o + j) (upd (putSq o T σ (o + j)) k x) = _
  rw [e]
  exact putSq_upr hj

theorem ct_addStall_1 {n : Nat} (hn : n < 8) {T : Sg} (e9 : T 0 9 = nI n) (kd p : Int32) (σ : Sg) : Ct mX2_addStall [.ref 1, .int kd, .int p] (putSq 1 T σ) (Ex (some (.int (nI n))) (putSq 1 (adT T n kd p 20) σ)) := by
  have e : putSq 1 (adT T n kd p 20) σ = up2 (up2 (up2 (up2 (up2 (up2 (putSq 1 T σ) 4 n kd) 5 n p) 6 n 20) 7 n 0) 8 n 0) 1 9 (nI (n + 1)) := by
    rw [show up2 (putSq 1 T σ) 4 n kd = _ from put2 (o := 1) (j := 3) (by decide) n kd, show ∀ U : Sg, up2 (putSq 1 U σ) 5 n p = _ from fun U => put2 (o := 1) (j := 4) (by decide) n p, show ∀ U : Sg, up2 (putSq 1 U σ) 6 n 20 = _ from fun U => put2 (o := 1) (j := 5) (by decide) n 20, show ∀ U : Sg, up2 (putSq 1 U σ) 7 n 0 = _ from fun U => put2 (o := 1) (j := 6) (by decide) n 0, show ∀ U : Sg, up2 (putSq 1 U σ) 8 n 0 = _ from fun U => put2 (o := 1) (j := 7) (by decide) n 0, show ∀ U : Sg, up2 (putSq 1 U σ) 1 9 (nI (n + 1)) = _ from fun U => put2 (o := 1) (j := 0) (by decide) 9 (nI (n + 1))]
    rfl
  have en : putSq 1 T σ 1 9 = nI n := e9
  rw [e]
  refine Ct.of (by decide +kernel) zX2_addStall (Nat.le_of_ble_eq_true rfl) (by decide) (fun X go => ?_)
  refine go.1 [] 60 _ _ _ _ ?_
  refine Exists.intro n (And.intro ⟨en, hn, by omega⟩ ?_)
  refine Exists.intro n (And.intro ⟨en, hn, by omega⟩ ?_)
  refine Exists.intro n (And.intro ⟨en, hn, by omega⟩ ?_)
  refine Exists.intro n (And.intro ⟨en, hn, by omega⟩ ?_)
  refine Exists.intro n (And.intro ⟨en, hn, by omega⟩ ?_)
  refine And.intro ⟨rfl, rfl⟩ ?_
  refine And.intro (congrArg (fun x => some (Value.int x)) en) ?_
  rw [nI_succ, ← en]
  rfl

theorem ct_addStall_10 {n : Nat} (hn : n < 8) {T : Sg} (e9 : T 0 9 = nI n) (kd p : Int32) (σ : Sg) : Ct mX2_addStall [.ref 10, .int kd, .int p] (putSq 10 T σ) (Ex (some (.int (nI n))) (putSq 10 (adT T n kd p 20) σ)) := by
  have e : putSq 10 (adT T n kd p 20) σ = up2 (up2 (up2 (up2 (up2 (up2 (putSq 10 T σ) 13 n kd) 14 n p) 15 n 20) 16 n 0) 17 n 0) 10 9 (nI (n + 1)) := by
    rw [show up2 (putSq 10 T σ) 13 n kd = _ from put2 (o := 10) (j := 3) (by decide) n kd, show ∀ U : Sg, up2 (putSq 10 U σ) 14 n p = _ from fun U => put2 (o := 10) (j := 4) (by decide) n p, show ∀ U : Sg, up2 (putSq 10 U σ) 15 n 20 = _ from fun U => put2 (o := 10) (j := 5) (by decide) n 20, show ∀ U : Sg, up2 (putSq 10 U σ) 16 n 0 = _ from fun U => put2 (o := 10) (j := 6) (by decide) n 0, show ∀ U : Sg, up2 (putSq 10 U σ) 17 n 0 = _ from fun U => put2 (o := 10) (j := 7) (by decide) n 0, show ∀ U : Sg, up2 (putSq 10 U σ) 10 9 (nI (n + 1)) = _ from fun U => put2 (o := 10) (j := 0) (by decide) 9 (nI (n + 1))]
    rfl
  have en : putSq 10 T σ 10 9 = nI n := e9
  rw [e]
  refine Ct.of (by decide +kernel) zX2_addStall (Nat.le_of_ble_eq_true rfl) (by decide) (fun X go => ?_)
  refine go.1 [] 60 _ _ _ _ ?_
  refine Exists.intro n (And.intro ⟨en, hn, by omega⟩ ?_)
  refine Exists.intro n (And.intro ⟨en, hn, by omega⟩ ?_)
  refine Exists.intro n (And.intro ⟨en, hn, by omega⟩ ?_)
  refine Exists.intro n (And.intro ⟨en, hn, by omega⟩ ?_)
  refine Exists.intro n (And.intro ⟨en, hn, by omega⟩ ?_)
  refine And.intro ⟨rfl, rfl⟩ ?_
  refine And.intro (congrArg (fun x => some (Value.int x)) en) ?_
  rw [nI_succ, ← en]
  rfl

theorem MS1 {σ T : Sg} {k w : Nat} (hk : k < 8) (hw : w < 5) (x : Int32) : up2 (MS σ T) 46 (28 + 5 * k + w) x = MS σ (upr T (3 + w) (upd (T (3 + w)) k x)) := MS_upd hk hw x
theorem ct_newStall {n : Nat} (hn : n < 8) {T : Sg} (e9 : T 0 9 = nI n) (kd p g : Int32) (σ : Sg) : Ct mX5_newStall [.ref 45, .int kd, .int p, .int g] (MS σ T) (Ex (some (.int (nI n))) (MS σ (adT T n kd p g))) := by
  have e : MS σ (adT T n kd p g) = up2 (up2 (up2 (up2 (up2 (up2 (MS σ T) 46 (28 + 5 * n + 0) kd) 46 (28 + 5 * n + 1) p) 46 (28 + 5 * n + 2) g) 46 (28 + 5 * n + 3) 0) 46 (28 + 5 * n + 4) 0) 46 1 (nI (n + 1)) := by
    rw [MS1 hn (by decide), MS1 hn (by decide), MS1 hn (by decide), MS1 hn (by decide), MS1 hn (by decide)]
    show MS σ (adT T n kd p g) = upr (MS σ _) 46 (upd (MS σ _ 46) 1 _)
    rw [show ∀ U : Sg, MS σ U 46 = flat U from fun U => upr_in _ _ _, flat_upd_f (Or.inr (Or.inl ⟨rfl, rfl⟩)), show ∀ (U : Sg) (f : Nat → Int32), upr (MS σ U) 46 f = upr σ 46 f from fun U f => upr_upr _ _ _ _]
    rfl
  have en : MS σ T 46 1 = nI n := e9
  rw [e]
  refine Ct.of (by decide +kernel) zX5_newStall (Nat.le_of_ble_eq_true rfl) (by decide) (fun X go => ?_)
  refine go.1 [] 100 _ _ _ _ ?_
  refine Exists.intro (1) (And.intro ⟨rfl, by omega, by omega⟩ ?_)
  refine cl (ct_at (a := n) (b := 0) en rfl _) ?_
  refine Exists.intro (28 + 5 * n + 0) (And.intro ⟨rfl, by omega, by omega⟩ ?_)
  refine cl (ct_at (a := n) (b := 1) en rfl _) ?_
  refine Exists.intro (28 + 5 * n + 1) (And.intro ⟨rfl, by omega, by omega⟩ ?_)
  refine cl (ct_at (a := n) (b := 2) en rfl _) ?_
  refine Exists.intro (28 + 5 * n + 2) (And.intro ⟨rfl, by omega, by omega⟩ ?_)
  refine cl (ct_at (a := n) (b := 3) en rfl _) ?_
  refine Exists.intro (28 + 5 * n + 3) (And.intro ⟨rfl, by omega, by omega⟩ ?_)
  refine cl (ct_at (a := n) (b := 4) en rfl _) ?_
  refine Exists.intro (28 + 5 * n + 4) (And.intro ⟨rfl, by omega, by omega⟩ ?_)
  refine Exists.intro (1) (And.intro ⟨rfl, by omega, by omega⟩ ?_)
  refine Exists.intro (1) (And.intro ⟨rfl, by omega, by omega⟩ ?_)
  refine And.intro (congrArg (fun x => some (Value.int x)) en) ?_
  have e2 : ∀ (f : Nat → Int32) (a : Nat) (x : Int32), a ≠ 1 → upd f a x 1 = f 1 := fun f a x q => upd_ne (Ne.symm q)
  rw [nI_succ, ← en]
  congr 1
  congr 1
  congr 1
  have e3 : ∀ (U : Sg) (k : Nat) (x : Int32), k ≠ 1 → up2 U 46 k x 46 1 = U 46 1 := fun U k x q => by rw [show up2 U 46 k x 46 = _ from upr_in _ _ _]; exact e2 _ _ _ q
  rw [e3 _ _ _ (by omega), e3 _ _ _ (by omega), e3 _ _ _ (by omega), e3 _ _ _ (by omega), e3 _ _ _ (by omega)]
theorem P_stall {σ : Sg} (h : J σ) (w p : Int32) : Pair mX4_stall mX5_stall [.int w, .int p] σ := by
  have f46 := J46 h
  obtain ⟨n, hh, v, h9⟩ := h.1
  have hn8 := v.1.1
  have z1 := h.2.1.1
  have z10 := h.2.1.2.1
  have z46 := J_z46 h
  have z48 := h.2.2.2.1.1
  have hnn : σ 1 9 = nI n := v.1.2.2.1
  have hn46 : σ 46 1 = nI n := by rw [f46]; exact v.1.2.2.1
  cases hw : bI w 0 6 with
  | false =>
      refine Pair_fd h 0 ?_ ?_
      · refine Ct.of (by decide +kernel) zX4_stall (Nat.le_of_ble_eq_true rfl) (by decide) (fun X go => ?_)
        refine go.1 [] 100 _ _ _ _ ?_
        refine cl (isK hw _) ?_
        refine br_t (by decide) ?_
        refine cl (ct_fd (w := 0) (by decide) rfl _) ?_
        exact And.intro rfl rfl
      · refine Ct.of (by decide +kernel) zX5_stall (Nat.le_of_ble_eq_true rfl) (by decide) (fun X go => ?_)
        refine go.1 [] 100 _ _ _ _ ?_
        refine cl (inM 0 6 hw _) ?_
        refine br_t (by decide) ?_
        refine cl (ct_finds (w := 0) (by decide) fd0 _) ?_
        exact And.intro rfl rfl
  | true =>
    cases hp : bI p 0 11 with
    | false =>
      refine Pair_fd h 0 ?_ ?_
      · refine Ct.of (by decide +kernel) zX4_stall (Nat.le_of_ble_eq_true rfl) (by decide) (fun X go => ?_)
        refine go.1 [] 100 _ _ _ _ ?_
        refine cl (isK hw _) ?_
        refine br_f (by decide) ?_
        refine cl (isP hp _) ?_
        refine br_t (by decide) ?_
        refine cl (ct_fd (w := 0) (by decide) rfl _) ?_
        exact And.intro rfl rfl
      · refine Ct.of (by decide +kernel) zX5_stall (Nat.le_of_ble_eq_true rfl) (by decide) (fun X go => ?_)
        refine go.1 [] 100 _ _ _ _ ?_
        refine cl (inM 0 6 hw _) ?_
        refine br_f (by decide) ?_
        refine cl (isPM hp _) ?_
        refine br_t (by decide) ?_
        refine cl (ct_finds (w := 0) (by decide) fd0 _) ?_
        exact And.intro rfl rfl
    | true =>
      obtain ⟨a, -, ha, ea⟩ := bI_n hw (by decide) (by decide)
      obtain ⟨b, -, hb, eb⟩ := bI_n hp (by decide) (by decide)
      have cs := ct_stallAt_1 v p
      have cm : ∀ σ1 : Sg, σ1 46 = flat (Tq 1 σ) → Ct mX5_stallAt [.ref 45, .int p] σ1 (Ex (some (.int (atN (Tq 1 σ) p n))) σ1) := by
        intro σ1 q
        have c := ct_stallAtM v p σ1
        rw [MSe q] at c
        exact c
      rcases atN_or (Tq 1 σ) p n with hat | ⟨k, hk, hat⟩
      · rw [hat] at cs cm
        by_cases hn : n < 8
        · refine ⟨nI n, putSq 1 (adT (Tq 1 σ) n w p 20) σ, MS (putSq 1 (adT (Tq 1 σ) n w p 20) σ) (adT (Tq 1 σ) n w p 20), ?_, ?_, ?_⟩
          · have c := ct_addStall_1 hn (T := Tq 1 σ) v.1.2.2.1 w p σ
            rw [putSq_self] at c
            refine Ct.of (by decide +kernel) zX4_stall (Nat.le_of_ble_eq_true rfl) (by decide) (fun X go => ?_)
            refine go.1 [] 100 _ _ _ _ ?_
            refine cl (isK hw _) ?_
            refine br_f (by decide) ?_
            refine cl (isP hp _) ?_
            refine br_f (by decide) ?_
            refine cl (cs) ?_
            refine br_t (by decide) ?_
            refine br_t (show σ 1 9 < nI 8 by rw [hnn]; exact nI_lt hn (by omega)) ?_
            refine cl (c) ?_
            exact And.intro rfl rfl
          · have c := ct_newStall hn (T := Tq 1 σ) v.1.2.2.1 w p 20 (putSq 1 (adT (Tq 1 σ) n w p 20) σ)
            rw [MSe (show putSq 1 (adT (Tq 1 σ) n w p 20) σ 46 = flat (Tq 1 σ) from f46)] at c
            refine Ct.of (by decide +kernel) zX5_stall (Nat.le_of_ble_eq_true rfl) (by decide) (fun X go => ?_)
            refine go.1 [] 100 _ _ _ _ ?_
            refine cl (inM 0 6 hw _) ?_
            refine br_f (by decide) ?_
            refine cl (isPM hp _) ?_
            refine br_f (by decide) ?_
            refine cl (cm (putSq 1 (adT (Tq 1 σ) n w p 20) σ) f46) ?_
            refine br_t (by decide) ?_
            refine Exists.intro (1) (And.intro ⟨rfl, by omega, by omega⟩ ?_)
            refine br_f (show ¬ σ 46 1 = nI 8 by rw [hn46]; exact fun z => absurd ((nI_eq (by omega) (by omega)).mp z) (by omega)) ?_
            refine cl (c) ?_
            exact And.intro rfl rfl
          · refine J_set h ⟨n + 1, hh, VT_ad v hn (show a < 7 by omega) (show b < 12 by omega) (show 20 ≤ 99 by decide) ea eb rfl hat, h9⟩ (ZT_ad z1 hn _ _ _) (fun j hj => ?_) (upr_in _ _ _) ?_ (fun i h1 h2 => ?_)
            · exact ((upr_out (show 1 + j ≠ 46 by omega)).trans (putSq_in (by omega))).symm
            · exact (upr_out (show 0 ≠ 46 by decide)).trans (putSq_out (by decide))
            · exact (upr_out h2).trans (putSq_out (by omega))
        · have hn : n = 8 := by omega
          subst hn
          refine Pair_fd h 1 ?_ ?_
          · refine Ct.of (by decide +kernel) zX4_stall (Nat.le_of_ble_eq_true rfl) (by decide) (fun X go => ?_)
            refine go.1 [] 100 _ _ _ _ ?_
            refine cl (isK hw _) ?_
            refine br_f (by decide) ?_
            refine cl (isP hp _) ?_
            refine br_f (by decide) ?_
            refine cl (cs) ?_
            refine br_t (by decide) ?_
            refine br_f (show ¬ σ 1 9 < nI 8 by rw [hnn]; decide) ?_
            refine cl (ct_fd (w := 1) (by decide) rfl _) ?_
            exact And.intro rfl rfl
          · refine Ct.of (by decide +kernel) zX5_stall (Nat.le_of_ble_eq_true rfl) (by decide) (fun X go => ?_)
            refine go.1 [] 100 _ _ _ _ ?_
            refine cl (inM 0 6 hw _) ?_
            refine br_f (by decide) ?_
            refine cl (isPM hp _) ?_
            refine br_f (by decide) ?_
            refine cl (cm (tel σ 1) f46) ?_
            refine br_t (by decide) ?_
            refine Exists.intro (1) (And.intro ⟨rfl, by omega, by omega⟩ ?_)
            refine br_t (show σ 46 1 = nI 8 from hn46) ?_
            refine cl (ct_finds (w := 1) (by decide) fd1 _) ?_
            exact And.intro rfl rfl
      · rw [hat] at cs cm
        refine Pair_fd h 4 ?_ ?_
        · refine Ct.of (by decide +kernel) zX4_stall (Nat.le_of_ble_eq_true rfl) (by decide) (fun X go => ?_)
          refine go.1 [] 100 _ _ _ _ ?_
          refine cl (isK hw _) ?_
          refine br_f (by decide) ?_
          refine cl (isP hp _) ?_
          refine br_f (by decide) ?_
          refine cl (cs) ?_
          refine br_f (nI_pos (by omega)) ?_
          refine cl (ct_fd (w := 4) (by decide) rfl _) ?_
          exact And.intro rfl rfl
        · refine Ct.of (by decide +kernel) zX5_stall (Nat.le_of_ble_eq_true rfl) (by decide) (fun X go => ?_)
          refine go.1 [] 100 _ _ _ _ ?_
          refine cl (inM 0 6 hw _) ?_
          refine br_f (by decide) ?_
          refine cl (isPM hp _) ?_
          refine br_f (by decide) ?_
          refine cl (cm (tel σ 4) f46) ?_
          refine br_f (nI_pos (by omega)) ?_
          refine cl (ct_finds (w := 4) (by decide) fd4 _) ?_
          exact And.intro rfl rfl

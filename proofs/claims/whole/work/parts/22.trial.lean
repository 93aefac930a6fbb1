/-! LOOKS AHEAD: support -/
theorem ZT_sell {T : Sg} (z : ZT T) : ∀ n, n ≤ 8 → ZT (sellN T n)
  | 0, _ => z
  | n + 1, h => by
    have ih := ZT_sell z n (by omega)
    obtain ⟨z0, z12, ⟨z3, z4, z5, z6, z7⟩, z8⟩ := ih
    exact ⟨z0, z12, ⟨z3, z4, Zr_upd z5 (by omega), Zr_upd z6 (by omega), Zr_upd z7 (by omega)⟩, z8⟩
theorem ZT_str {st tk : Int32} {T : Sg} (z : ZT T) : ∀ n, n ≤ 8 → ZT (strN st tk T n)
  | 0, _ => z
  | n + 1, h => by
    have ih := ZT_str (st := st) (tk := tk) z n (by omega)
    show ZT (str1 st tk (strN st tk T n) n)
    unfold str1
    split
    · exact ih
    · obtain ⟨z0, z12, ⟨z3, z4, z5, z6, z7⟩, z8⟩ := ih
      exact ⟨z0, z12, ⟨z3, Zr_upd z4 (by omega), z5, z6, z7⟩, z8⟩
theorem ZT_hr {n : Nat} (hn : n ≤ 8) {T : Sg} (z : ZT T) : ZT (hrT n T) := by
  have z1 : ZT (strT n (sellN T n)) := ZT_str (ZT_sell z n hn) n hn
  exact ZT_row0 z1 (by decide)
theorem ZT_hrs {n : Nat} (hn : n ≤ 8) {T : Sg} (z : ZT T) : ∀ j, ZT (hrsT n T j)
  | 0 => z
  | j + 1 => ZT_hr hn (ZT_hrs hn z j)
theorem atN_cong {T U : Sg} (h4 : T 4 = U 4) (p : Int32) : ∀ n, atN T p n = atN U p n
  | 0 => rfl
  | k + 1 => by unfold atN; rw [h4, atN_cong h4 p k]
theorem atN_or (T : Sg) (p : Int32) : ∀ n, atN T p n = -1 ∨ ∃ k, k < n ∧ atN T p n = nI k
  | 0 => Or.inl rfl
  | n + 1 => by
    unfold atN
    split
    · exact Or.inr ⟨n, by omega, rfl⟩
    · rcases atN_or T p n with h | ⟨k, h1, h2⟩
      · exact Or.inl h
      · exact Or.inr ⟨k, by omega, h2⟩
theorem suG_cong {f g : Nat → Int32} (h : f = g) (n : Nat) : suG f n = suG g n := by rw [h]
/-- all is saved; all is put back -/
def sv (σ : Sg) : Sg := upr σ 48 (σ 46)
theorem ct_sv {σ : Sg} (z46 : Zr 78 (σ 46)) (z48 : Zr 78 (σ 48)) : Ct mX5_saves [.ref 45] σ (Ex none (sv σ)) := ct_saves z46 z48
theorem ct_bk {σ : Sg} (z46 : Zr 78 (σ 46)) (U : Sg) : Ct mX5_putsBack [.ref 45] (MS (sv σ) U) (Ex none (sv σ)) := by
  have c := ct_putsBack (σ := MS (sv σ) U) z46 (flat_z U)
  have e : upr (MS (sv σ) U) 46 (MS (sv σ) U 48) = sv σ := by
    show upr (upr (sv σ) 46 (flat U)) 46 (sv σ 46) = sv σ
    rw [upr_upr, upr_self]
  rw [e] at c
  exact c
theorem sv_tel (σ : Sg) (w : Nat) : sv (tel σ w) = tel (sv σ) w := by
  funext i
  show upr (upr σ 44 _) 48 (σ 46) i = upr (upr σ 48 (σ 46)) 44 _ i
  by_cases h : i = 48
  · subst h; rw [upr_in, upr_out (by decide), upr_in]
  · rw [upr_out h]
    by_cases h4 : i = 44
    · subst h4; rw [upr_in, upr_in]; rfl
    · rw [upr_out h4, upr_out h4, upr_out h]
theorem J_tr {σ U : Sg} (h : J σ) (z : ZT U) : J (sv (putSq 10 U σ)) := by
  refine J_junk h (fun i hi => ?_) ?_ ?_ ?_ ?_ ?_
  · unfold Jc at hi
    show upr (putSq 10 U σ) 48 _ i = _
    rw [upr_out (by omega), putSq_out (by omega)]
  · rfl
  · rfl
  · rfl
  · exact ZT_cong (fun j hj => by
      show U j = upr (putSq 10 U σ) 48 _ (10 + j)
      rw [upr_out (by omega), putSq_in (by omega)]) z
  · show Zr 78 (σ 46)
    rw [h.2.2.1]
    exact flat_z _
theorem J_z46 {σ : Sg} (h : J σ) : Zr 78 (σ 46) := by rw [h.2.2.1]; exact flat_z _
theorem VT_tr {n hh b : Nat} {U σ : Sg} (v : VTb n hh b U) : VTb n hh b (Tq 10 (putSq 10 U σ)) := VT_cong (fun j hj => (Tq_put j hj).symm) v
/-- the finding of a look ahead, case by case -/
theorem ah_bad {hh : Nat} (h9 : hh ≤ 999) {σ : Sg} (e : Tq 1 σ 0 10 = nI hh) (a b : Nat) (hab : a ≤ b ∧ b ≤ 999) (k : Bool) {kv nv lo hi : Int32} (hbad : (k && bI nv a b) = false) (ek : kv = zb k := by rfl) (el : lo = nI a := by rfl) (eh : hi = nI b := by rfl) : Ct mX4_aheadFinding [.ref 0, .int kv, .int nv, .int lo, .int hi] σ (Ex (some (.int (fd 0))) (tel σ 0)) := by
  have c := ctZ_ahead h9 hab.1 hab.2 (σ := σ) e k (nv := nv) ek el eh
  rw [show aF k nv a b hh = some 0 by unfold aF; rw [hbad]; rfl] at c
  exact c
theorem ah_late {hh : Nat} (h9 : hh ≤ 999) {σ : Sg} (e : Tq 1 σ 0 10 = nI hh) (a b : Nat) (hab : a ≤ b ∧ b ≤ 999) {m : Nat} {kv nv lo hi : Int32} (hr : bI nv a b = true) (en : nv = nI m) (hm : m < 1000000) (hl : 999 < hh + m) (ek : kv = zb true := by rfl) (el : lo = nI a := by rfl) (eh : hi = nI b := by rfl) : Ct mX4_aheadFinding [.ref 0, .int kv, .int nv, .int lo, .int hi] σ (Ex (some (.int (fd 4))) (tel σ 4)) := by
  have c := ctZ_ahead h9 hab.1 hab.2 (σ := σ) e true (nv := nv) ek el eh
  rw [show aF true nv a b hh = some 4 by
    unfold aF; rw [hr, en, nI_toInt (by omega)]
    show (if (999 : Int) < (hh : Int) + (m : Int) then some 4 else none) = some 4
    exact if_pos (by omega)] at c
  exact c
theorem ah_ok {hh : Nat} (h9 : hh ≤ 999) {σ : Sg} (e : Tq 1 σ 0 10 = nI hh) (a b : Nat) (hab : a ≤ b ∧ b ≤ 999) {m : Nat} {kv nv lo hi : Int32} (hr : bI nv a b = true) (en : nv = nI m) (hm : m < 1000000) (hl : ¬ 999 < hh + m) (ek : kv = zb true := by rfl) (el : lo = nI a := by rfl) (eh : hi = nI b := by rfl) : Ct mX4_aheadFinding [.ref 0, .int kv, .int nv, .int lo, .int hi] σ (Ex (some (.int 0)) σ) := by
  have c := ctZ_ahead h9 hab.1 hab.2 (σ := σ) e true (nv := nv) ek el eh
  rw [show aF true nv a b hh = none by
    unfold aF; rw [hr, en, nI_toInt (by omega)]
    show (if (999 : Int) < (hh : Int) + (m : Int) then some 4 else none) = none
    exact if_neg (by omega)] at c
  exact c
theorem tl {hh m : Nat} (h9 : hh ≤ 999) {σ T : Sg} (f : σ 46 = flat T) (e : T 0 10 = nI hh) {mv : Int32} (en : mv = nI m) (hm : m < 10000) {b : Bool} (hb : decide (999 < hh + m) = b) : Ct mX5_isTooLate [.ref 45, .int mv] σ (Ex (some (.int (zb b))) σ) := by
  rw [← hb]
  exact ct_isTooLate (by rw [f]; exact e) (by omega) en
theorem J_tr0 {σ U : Sg} (h : J σ) (z : ZT U) : J (putSq 10 U σ) := by
  refine J_junk h (fun i hi => ?_) ?_ ?_ ?_ ?_ ?_
  · unfold Jc at hi
    rw [putSq_out (by omega)]
  · rfl
  · rfl
  · rfl
  · exact ZT_cong (fun j hj => by
      show U j = putSq 10 U σ (10 + j)
      rw [putSq_in (by omega)]) z
  · exact h.2.2.2.1.1

theorem P_hours {σ : Sg} (h : J σ) (nv : Int32) : Pair mX4_hours mX5_hours [.int nv] σ := by
  have f46 := J46 h
  obtain ⟨n, hh, v, h9⟩ := h.1
  have hn8 := v.1.1
  have z1 := h.2.1.1
  have z10 := h.2.1.2.1
  have z46 := J_z46 h
  have z48 := h.2.2.2.1.1
  cases hn : bI nv 1 48 with
  | false =>
      refine Pair_fd h 0 ?_ ?_
      · refine Ct.of (by decide +kernel) zX4_hours (Nat.le_of_ble_eq_true rfl) (by decide) (fun X go => ?_)
        refine go.1 [] 100 _ _ _ _ ?_
        refine cl (ah_bad h9 v.1.2.2.2 1 48 (by decide) true hn) ?_
        refine br_f (by decide) ?_
        exact And.intro rfl rfl
      · refine Ct.of (by decide +kernel) zX5_hours (Nat.le_of_ble_eq_true rfl) (by decide) (fun X go => ?_)
        refine go.1 [] 100 _ _ _ _ ?_
        refine cl (inM 1 48 hn _) ?_
        refine br_t (by decide) ?_
        refine cl (ct_finds (w := 0) (by decide) fd0 _) ?_
        exact And.intro rfl rfl
  | true =>
    obtain ⟨m, hm1, hm2, en⟩ := bI_n hn (by decide) (by decide)
    by_cases late : 999 < hh + m
    · refine Pair_fd h 4 ?_ ?_
      · refine Ct.of (by decide +kernel) zX4_hours (Nat.le_of_ble_eq_true rfl) (by decide) (fun X go => ?_)
        refine go.1 [] 100 _ _ _ _ ?_
        refine cl (ah_late h9 v.1.2.2.2 1 48 (by decide) hn en (by omega) late) ?_
        refine br_f (by decide) ?_
        exact And.intro rfl rfl
      · refine Ct.of (by decide +kernel) zX5_hours (Nat.le_of_ble_eq_true rfl) (by decide) (fun X go => ?_)
        refine go.1 [] 100 _ _ _ _ ?_
        refine cl (inM 1 48 hn _) ?_
        refine br_f (by decide) ?_
        refine cl (tl h9 (σ := tel σ 4) f46 v.1.2.2.2 en (by omega) (decide_eq_true late)) ?_
        refine br_f (by decide) ?_
        refine cl (ct_finds (w := 4) (by decide) fd4 _) ?_
        exact And.intro rfl rfl
    · have vm := VT_hrs v m (by omega)
      have zm := ZT_hrs hn8 z1 m
      have c1 := ct_passHours_1 v (show hh + m ≤ 2000 by omega) en σ
      rw [putSq_self] at c1
      have c2 := ct_hoursGo v (show hh + m ≤ 2000 by omega) en (putSq 1 (hrsT n (Tq 1 σ) m) σ)
      rw [MSe (show putSq 1 (hrsT n (Tq 1 σ) m) σ 46 = flat (Tq 1 σ) from f46)] at c2
      refine ⟨hrsS n (Tq 1 σ) m, putSq 1 (hrsT n (Tq 1 σ) m) σ, MS (putSq 1 (hrsT n (Tq 1 σ) m) σ) (hrsT n (Tq 1 σ) m), ?_, ?_, ?_⟩
      · refine Ct.of (by decide +kernel) zX4_hours (Nat.le_of_ble_eq_true rfl) (by decide) (fun X go => ?_)
        refine go.1 [] 100 _ _ _ _ ?_
        refine cl (ah_ok h9 v.1.2.2.2 1 48 (by decide) hn en (by omega) late) ?_
        refine br_t (by decide) ?_
        refine cl (c1) ?_
        exact And.intro rfl rfl
      · refine Ct.of (by decide +kernel) zX5_hours (Nat.le_of_ble_eq_true rfl) (by decide) (fun X go => ?_)
        refine go.1 [] 100 _ _ _ _ ?_
        refine cl (inM 1 48 hn _) ?_
        refine br_f (by decide) ?_
        refine cl (tl h9 (σ := putSq 1 (hrsT n (Tq 1 σ) m) σ) f46 v.1.2.2.2 en (by omega) (decide_eq_false late)) ?_
        refine br_t (by decide) ?_
        refine cl (c2) ?_
        exact And.intro rfl rfl
      · refine J_set h ⟨n, hh + m, vm, by omega⟩ zm (fun j hj => ?_) (upr_in _ _ _) ?_ (fun i h1 h2 => ?_)
        · exact ((upr_out (show 1 + j ≠ 46 by omega)).trans (putSq_in (by omega))).symm
        · exact (upr_out (show 0 ≠ 46 by decide)).trans (putSq_out (by decide))
        · exact (upr_out h2).trans (putSq_out (by omega))
theorem P_stay {σ : Sg} (h : J σ) : Pair mX4_stay mX5_stay [] σ := by
  have f46 := J46 h
  obtain ⟨n, hh, v, h9⟩ := h.1
  have hn8 := v.1.1
  have z1 := h.2.1.1
  have z10 := h.2.1.2.1
  have z46 := J_z46 h
  have z48 := h.2.2.2.1.1
  have c1 := ct_sellAll_10 v σ
  have c2 := ct_stayers_10 (σ := putSq 10 (sellN (Tq 1 σ) n) σ) hn8 (show sellN (Tq 1 σ) n 0 9 = nI n by rw [sellN_row (by decide) (by decide) (by decide)]; exact v.1.2.2.1)
  rw [show stN (Tq 10 (putSq 10 (sellN (Tq 1 σ) n) σ)) n = stN (sellN (Tq 1 σ) n) n from stN_cong (T := Tq 10 (putSq 10 (sellN (Tq 1 σ) n) σ)) (U := sellN (Tq 1 σ) n) rfl rfl rfl n] at c2
  have c3 := ct_staying v false (sv := 0) rfl (putSq 10 (sellN (Tq 1 σ) n) σ)
  rw [MSe (show putSq 10 (sellN (Tq 1 σ) n) σ 46 = flat (Tq 1 σ) from f46), stB_f v n (Nat.le_refl n)] at c3
  refine ⟨stN (sellN (Tq 1 σ) n) n, putSq 10 (sellN (Tq 1 σ) n) σ, putSq 10 (sellN (Tq 1 σ) n) σ, ?_, ?_, ?_⟩
  · refine Ct.of (by decide +kernel) zX4_stay (Nat.le_of_ble_eq_true rfl) (by decide) (fun X go => ?_)
    refine go.1 [] 100 _ _ _ _ ?_
    refine cl (ct_become_10_1 z10 z1) ?_
    refine cl (c1) ?_
    refine cl (c2) ?_
    exact And.intro rfl rfl
  · refine Ct.of (by decide +kernel) zX5_stay (Nat.le_of_ble_eq_true rfl) (by decide) (fun X go => ?_)
    refine go.1 [] 100 _ _ _ _ ?_
    refine cl (c3) ?_
    exact And.intro rfl rfl
  · exact J_tr0 h (ZT_sell z1 n hn8)
theorem P_beside {σ : Sg} (h : J σ) (s : Int32) : Pair mX4_beside mX5_beside [.int s] σ := by
  have f46 := J46 h
  obtain ⟨n, hh, v, h9⟩ := h.1
  have hn8 := v.1.1
  have z1 := h.2.1.1
  have z10 := h.2.1.2.1
  have z46 := J_z46 h
  have z48 := h.2.2.2.1.1
  cases hs : bI s 0 ((n : Int) - 1) with
  | false =>
      refine Pair_fd h 0 ?_ ?_
      · refine Ct.of (by decide +kernel) zX4_beside (Nat.le_of_ble_eq_true rfl) (by decide) (fun X go => ?_)
        refine go.1 [] 100 _ _ _ _ ?_
        refine cl (isS v hs) ?_
        refine br_t (by decide) ?_
        refine cl (ct_fd (w := 0) (by decide) rfl _) ?_
        exact And.intro rfl rfl
      · refine Ct.of (by decide +kernel) zX5_beside (Nat.le_of_ble_eq_true rfl) (by decide) (fun X go => ?_)
        refine go.1 [] 100 _ _ _ _ ?_
        refine cl (isSM v (σ := tel σ 0) f46 hs) ?_
        refine br_t (by decide) ?_
        refine cl (ct_finds (w := 0) (by decide) fd0 _) ?_
        exact And.intro rfl rfl
  | true =>
    obtain ⟨k, hk, ek⟩ := st_n v.1.1 hs
    have c2 := ct_besideSetM v (show k < 8 by omega) ek σ
    rw [MSe f46] at c2
    refine ⟨stG (bes (Tq 1 σ) k) n, σ, σ, ?_, ?_, h⟩
    · refine Ct.of (by decide +kernel) zX4_beside (Nat.le_of_ble_eq_true rfl) (by decide) (fun X go => ?_)
      refine go.1 [] 100 _ _ _ _ ?_
      refine cl (isS v hs) ?_
      refine br_f (by decide) ?_
      refine cl (ct_besideSet_1 v (show k < 8 by omega) ek) ?_
      exact And.intro rfl rfl
    · refine Ct.of (by decide +kernel) zX5_beside (Nat.le_of_ble_eq_true rfl) (by decide) (fun X go => ?_)
      refine go.1 [] 100 _ _ _ _ ?_
      refine cl (isSM v f46 hs) ?_
      refine br_f (by decide) ?_
      refine cl (c2) ?_
      exact And.intro rfl rfl

theorem P_there {σ : Sg} (h : J σ) (p nv : Int32) : Pair mX4_there mX5_there [.int p, .int nv] σ := by
  have f46 := J46 h
  obtain ⟨n, hh, v, h9⟩ := h.1
  have hn8 := v.1.1
  have z1 := h.2.1.1
  have z10 := h.2.1.2.1
  have z46 := J_z46 h
  have z48 := h.2.2.2.1.1
  cases hp : bI p 0 11 with
  | false =>
      refine Pair_fd h 0 ?_ ?_
      · refine Ct.of (by decide +kernel) zX4_there (Nat.le_of_ble_eq_true rfl) (by decide) (fun X go => ?_)
        refine go.1 [] 100 _ _ _ _ ?_
        refine cl (isP hp _) ?_
        refine cl (ah_bad h9 v.1.2.2.2 0 96 (by decide) false rfl) ?_
        refine br_f (by decide) ?_
        exact And.intro rfl rfl
      · refine Ct.of (by decide +kernel) zX5_there (Nat.le_of_ble_eq_true rfl) (by decide) (fun X go => ?_)
        refine go.1 [] 100 _ _ _ _ ?_
        refine cl (isPM hp _) ?_
        refine br_t (by decide) ?_
        refine cl (ct_finds (w := 0) (by decide) fd0 _) ?_
        exact And.intro rfl rfl
  | true =>
    cases hn : bI nv 0 96 with
    | false =>
      refine Pair_fd h 0 ?_ ?_
      · refine Ct.of (by decide +kernel) zX4_there (Nat.le_of_ble_eq_true rfl) (by decide) (fun X go => ?_)
        refine go.1 [] 100 _ _ _ _ ?_
        refine cl (isP hp _) ?_
        refine cl (ah_bad h9 v.1.2.2.2 0 96 (by decide) true hn) ?_
        refine br_f (by decide) ?_
        exact And.intro rfl rfl
      · refine Ct.of (by decide +kernel) zX5_there (Nat.le_of_ble_eq_true rfl) (by decide) (fun X go => ?_)
        refine go.1 [] 100 _ _ _ _ ?_
        refine cl (isPM hp _) ?_
        refine br_f (by decide) ?_
        refine cl (isSpM hn _) ?_
        refine br_t (by decide) ?_
        refine cl (ct_finds (w := 0) (by decide) fd0 _) ?_
        exact And.intro rfl rfl
    | true =>
      obtain ⟨m, hm1, hm2, en⟩ := bI_n hn (by decide) (by decide)
      by_cases late : 999 < hh + m
      · refine Pair_fd h 4 ?_ ?_
        · refine Ct.of (by decide +kernel) zX4_there (Nat.le_of_ble_eq_true rfl) (by decide) (fun X go => ?_)
          refine go.1 [] 100 _ _ _ _ ?_
          refine cl (isP hp _) ?_
          refine cl (ah_late h9 v.1.2.2.2 0 96 (by decide) hn en (by omega) late) ?_
          refine br_f (by decide) ?_
          exact And.intro rfl rfl
        · refine Ct.of (by decide +kernel) zX5_there (Nat.le_of_ble_eq_true rfl) (by decide) (fun X go => ?_)
          refine go.1 [] 100 _ _ _ _ ?_
          refine cl (isPM hp _) ?_
          refine br_f (by decide) ?_
          refine cl (isSpM hn _) ?_
          refine br_f (by decide) ?_
          refine cl (tl h9 (σ := tel σ 4) f46 v.1.2.2.2 en (by omega) (decide_eq_true late)) ?_
          refine br_f (by decide) ?_
          refine cl (ct_finds (w := 4) (by decide) fd4 _) ?_
          exact And.intro rfl rfl
      · have vm := VT_hrs v m (by omega)
        have zm := ZT_hrs hn8 z1 m
        have c1 := ct_passHours_10 v (show hh + m ≤ 2000 by omega) en σ
        generalize hU : hrsT n (Tq 1 σ) m = U at *
        have cs := ct_stallAt_10 (σ := putSq 10 U σ) (VT_tr vm) p
        rw [show atN (Tq 10 (putSq 10 U σ)) p n = atN U p n from atN_cong (T := Tq 10 (putSq 10 U σ)) (U := U) rfl p n] at cs
        have c2 : ∀ σ1 : Sg, σ1 46 = flat (Tq 1 σ) → Ct mX5_hoursGo [.ref 45, .int nv] (sv σ1) (Ex (some (.int (hrsS n (Tq 1 σ) m))) (MS (sv σ1) U)) := by
          intro σ1 q
          have c := ct_hoursGo v (show hh + m ≤ 2000 by omega) en (sv σ1)
          rw [MSe (show sv σ1 46 = flat (Tq 1 σ) from q), hU] at c
          exact c
        rcases atN_or U p n with ha | ⟨k, hk, ha⟩
        · rw [ha] at cs
          refine ⟨fd 3, tel (putSq 10 U σ) 3, telM (sv (tel (putSq 10 U σ) 3)) 3, ?_, ?_, ?_⟩
          · refine Ct.of (by decide +kernel) zX4_there (Nat.le_of_ble_eq_true rfl) (by decide) (fun X go => ?_)
            refine go.1 [] 100 _ _ _ _ ?_
            refine cl (isP hp _) ?_
            refine cl (ah_ok h9 v.1.2.2.2 0 96 (by decide) hn en (by omega) late) ?_
            refine br_t (by decide) ?_
            refine cl (ct_become_10_1 z10 z1) ?_
            refine cl (c1) ?_
            refine cl (cs) ?_
            refine br_t (by decide) ?_
            refine cl (ct_fd (w := 3) (by decide) rfl _) ?_
            exact And.intro rfl rfl
          · have cm := ct_stallAtM vm p (sv (tel (putSq 10 U σ) 3))
            rw [ha] at cm
            refine Ct.of (by decide +kernel) zX5_there (Nat.le_of_ble_eq_true rfl) (by decide) (fun X go => ?_)
            refine go.1 [] 100 _ _ _ _ ?_
            refine cl (isPM hp _) ?_
            refine br_f (by decide) ?_
            refine cl (isSpM hn _) ?_
            refine br_f (by decide) ?_
            refine cl (tl h9 (σ := tel (putSq 10 U σ) 3) f46 v.1.2.2.2 en (by omega) (decide_eq_false late)) ?_
            refine br_t (by decide) ?_
            refine cl (ct_sv (σ := tel (putSq 10 U σ) 3) z46 z48) ?_
            refine cl (c2 (tel (putSq 10 U σ) 3) f46) ?_
            refine cl (cm) ?_
            refine cl (ct_bk (σ := tel (putSq 10 U σ) 3) z46 U) ?_
            refine br_f (by decide) ?_
            refine cl (ct_finds (w := 3) (by decide) fd3 _) ?_
            exact And.intro rfl rfl
          · rw [sv_tel]
            exact J_tell (J_tr h zm) 3
        · rw [ha] at cs
          refine ⟨nI k, putSq 10 U σ, sv (putSq 10 U σ), ?_, ?_, J_tr h zm⟩
          · refine Ct.of (by decide +kernel) zX4_there (Nat.le_of_ble_eq_true rfl) (by decide) (fun X go => ?_)
            refine go.1 [] 100 _ _ _ _ ?_
            refine cl (isP hp _) ?_
            refine cl (ah_ok h9 v.1.2.2.2 0 96 (by decide) hn en (by omega) late) ?_
            refine br_t (by decide) ?_
            refine cl (ct_become_10_1 z10 z1) ?_
            refine cl (c1) ?_
            refine cl (cs) ?_
            refine br_f (nI_pos (by omega)) ?_
            exact And.intro rfl rfl
          · have cm := ct_stallAtM vm p (sv (putSq 10 U σ))
            rw [ha] at cm
            refine Ct.of (by decide +kernel) zX5_there (Nat.le_of_ble_eq_true rfl) (by decide) (fun X go => ?_)
            refine go.1 [] 100 _ _ _ _ ?_
            refine cl (isPM hp _) ?_
            refine br_f (by decide) ?_
            refine cl (isSpM hn _) ?_
            refine br_f (by decide) ?_
            refine cl (tl h9 (σ := putSq 10 U σ) f46 v.1.2.2.2 en (by omega) (decide_eq_false late)) ?_
            refine br_t (by decide) ?_
            refine cl (ct_sv (σ := putSq 10 U σ) z46 z48) ?_
            refine cl (c2 (putSq 10 U σ) f46) ?_
            refine cl (cm) ?_
            refine cl (ct_bk (σ := putSq 10 U σ) z46 U) ?_
            refine br_t (nI_pos' (by omega)) ?_
            exact And.intro rfl rfl

theorem P_thief {σ : Sg} (h : J σ) (p nv : Int32) : Pair mX4_thief mX5_thief [.int p, .int nv] σ := by
  have f46 := J46 h
  obtain ⟨n, hh, v, h9⟩ := h.1
  have hn8 := v.1.1
  have z1 := h.2.1.1
  have z10 := h.2.1.2.1
  have z46 := J_z46 h
  have z48 := h.2.2.2.1.1
  cases hp : bI p 0 11 with
  | false =>
      refine Pair_fd h 0 ?_ ?_
      · refine Ct.of (by decide +kernel) zX4_thief (Nat.le_of_ble_eq_true rfl) (by decide) (fun X go => ?_)
        refine go.1 [] 100 _ _ _ _ ?_
        refine cl (isP hp _) ?_
        refine cl (ah_bad h9 v.1.2.2.2 0 96 (by decide) false rfl) ?_
        refine br_f (by decide) ?_
        exact And.intro rfl rfl
      · refine Ct.of (by decide +kernel) zX5_thief (Nat.le_of_ble_eq_true rfl) (by decide) (fun X go => ?_)
        refine go.1 [] 100 _ _ _ _ ?_
        refine cl (isPM hp _) ?_
        refine br_t (by decide) ?_
        refine cl (ct_finds (w := 0) (by decide) fd0 _) ?_
        exact And.intro rfl rfl
  | true =>
    cases hn : bI nv 0 96 with
    | false =>
      refine Pair_fd h 0 ?_ ?_
      · refine Ct.of (by decide +kernel) zX4_thief (Nat.le_of_ble_eq_true rfl) (by decide) (fun X go => ?_)
        refine go.1 [] 100 _ _ _ _ ?_
        refine cl (isP hp _) ?_
        refine cl (ah_bad h9 v.1.2.2.2 0 96 (by decide) true hn) ?_
        refine br_f (by decide) ?_
        exact And.intro rfl rfl
      · refine Ct.of (by decide +kernel) zX5_thief (Nat.le_of_ble_eq_true rfl) (by decide) (fun X go => ?_)
        refine go.1 [] 100 _ _ _ _ ?_
        refine cl (isPM hp _) ?_
        refine br_f (by decide) ?_
        refine cl (isSpM hn _) ?_
        refine br_t (by decide) ?_
        refine cl (ct_finds (w := 0) (by decide) fd0 _) ?_
        exact And.intro rfl rfl
    | true =>
      obtain ⟨m, hm1, hm2, en⟩ := bI_n hn (by decide) (by decide)
      by_cases late : 999 < hh + m
      · refine Pair_fd h 4 ?_ ?_
        · refine Ct.of (by decide +kernel) zX4_thief (Nat.le_of_ble_eq_true rfl) (by decide) (fun X go => ?_)
          refine go.1 [] 100 _ _ _ _ ?_
          refine cl (isP hp _) ?_
          refine cl (ah_late h9 v.1.2.2.2 0 96 (by decide) hn en (by omega) late) ?_
          refine br_f (by decide) ?_
          exact And.intro rfl rfl
        · refine Ct.of (by decide +kernel) zX5_thief (Nat.le_of_ble_eq_true rfl) (by decide) (fun X go => ?_)
          refine go.1 [] 100 _ _ _ _ ?_
          refine cl (isPM hp _) ?_
          refine br_f (by decide) ?_
          refine cl (isSpM hn _) ?_
          refine br_f (by decide) ?_
          refine cl (tl h9 (σ := tel σ 4) f46 v.1.2.2.2 en (by omega) (decide_eq_true late)) ?_
          refine br_f (by decide) ?_
          refine cl (ct_finds (w := 4) (by decide) fd4 _) ?_
          exact And.intro rfl rfl
      · have vm := VT_hrs v m (by omega)
        have zm := ZT_hrs hn8 z1 m
        have c1 := ct_passHours_10 v (show hh + m ≤ 2000 by omega) en σ
        generalize hU : hrsT n (Tq 1 σ) m = U at *
        have cs := ct_stallAt_10 (σ := putSq 10 U σ) (VT_tr vm) p
        rw [show atN (Tq 10 (putSq 10 U σ)) p n = atN U p n from atN_cong (T := Tq 10 (putSq 10 U σ)) (U := U) rfl p n] at cs
        have c2 : ∀ σ1 : Sg, σ1 46 = flat (Tq 1 σ) → Ct mX5_hoursGo [.ref 45, .int nv] (sv σ1) (Ex (some (.int (hrsS n (Tq 1 σ) m))) (MS (sv σ1) U)) := by
          intro σ1 q
          have c := ct_hoursGo v (show hh + m ≤ 2000 by omega) en (sv σ1)
          rw [MSe (show sv σ1 46 = flat (Tq 1 σ) from q), hU] at c
          exact c
        rcases atN_or U p n with ha | ⟨k, hk, ha⟩
        · rw [ha] at cs
          refine ⟨0, putSq 10 U σ, sv (putSq 10 U σ), ?_, ?_, J_tr h zm⟩
          · refine Ct.of (by decide +kernel) zX4_thief (Nat.le_of_ble_eq_true rfl) (by decide) (fun X go => ?_)
            refine go.1 [] 100 _ _ _ _ ?_
            refine cl (isP hp _) ?_
            refine cl (ah_ok h9 v.1.2.2.2 0 96 (by decide) hn en (by omega) late) ?_
            refine br_t (by decide) ?_
            refine cl (ct_become_10_1 z10 z1) ?_
            refine cl (c1) ?_
            refine cl (cs) ?_
            refine br_t (by decide) ?_
            exact And.intro rfl rfl
          · have cm := ct_stallAtM vm p (sv (putSq 10 U σ))
            rw [ha] at cm
            refine Ct.of (by decide +kernel) zX5_thief (Nat.le_of_ble_eq_true rfl) (by decide) (fun X go => ?_)
            refine go.1 [] 100 _ _ _ _ ?_
            refine cl (isPM hp _) ?_
            refine br_f (by decide) ?_
            refine cl (isSpM hn _) ?_
            refine br_f (by decide) ?_
            refine cl (tl h9 (σ := putSq 10 U σ) f46 v.1.2.2.2 en (by omega) (decide_eq_false late)) ?_
            refine br_t (by decide) ?_
            refine cl (ct_sv (σ := putSq 10 U σ) z46 z48) ?_
            refine cl (c2 (putSq 10 U σ) f46) ?_
            refine cl (cm) ?_
            refine br_f (by decide) ?_
            refine cl (ct_bk (σ := putSq 10 U σ) z46 U) ?_
            exact And.intro rfl rfl
        · rw [ha] at cs
          refine ⟨U 5 k, putSq 10 U σ, sv (putSq 10 U σ), ?_, ?_, J_tr h zm⟩
          · refine Ct.of (by decide +kernel) zX4_thief (Nat.le_of_ble_eq_true rfl) (by decide) (fun X go => ?_)
            refine go.1 [] 100 _ _ _ _ ?_
            refine cl (isP hp _) ?_
            refine cl (ah_ok h9 v.1.2.2.2 0 96 (by decide) hn en (by omega) late) ?_
            refine br_t (by decide) ?_
            refine cl (ct_become_10_1 z10 z1) ?_
            refine cl (c1) ?_
            refine cl (cs) ?_
            refine br_f (nI_pos (by omega)) ?_
            refine Exists.intro (k) (And.intro ⟨rfl, by omega, by omega⟩ ?_)
            exact And.intro rfl rfl
          · have cm := ct_stallAtM vm p (sv (putSq 10 U σ))
            rw [ha] at cm
            refine Ct.of (by decide +kernel) zX5_thief (Nat.le_of_ble_eq_true rfl) (by decide) (fun X go => ?_)
            refine go.1 [] 100 _ _ _ _ ?_
            refine cl (isPM hp _) ?_
            refine br_f (by decide) ?_
            refine cl (isSpM hn _) ?_
            refine br_f (by decide) ?_
            refine cl (tl h9 (σ := putSq 10 U σ) f46 v.1.2.2.2 en (by omega) (decide_eq_false late)) ?_
            refine br_t (by decide) ?_
            refine cl (ct_sv (σ := putSq 10 U σ) z46 z48) ?_
            refine cl (c2 (putSq 10 U σ) f46) ?_
            refine cl (cm) ?_
            refine br_t (nI_pos' (by omega)) ?_
            refine cl (ct_its (w := 2) (show k < 8 by omega) (by decide) rfl (wv := 2) rfl (sv (putSq 10 U σ)) U) ?_
            refine cl (ct_bk (σ := putSq 10 U σ) z46 U) ?_
            exact And.intro rfl rfl

/-! LEAVES: what is told of a square, by both -/
/-- a set by a question; a sum -/
def stG (P : Nat → Bool) : Nat → Int32
  | 0 => 0
  | k + 1 => if P k = true then stG P k ||| bit1 (nI k) else stG P k
def suG (f : Nat → Int32) : Nat → Int32
  | 0 => 0
  | k + 1 => suG f k + f k
theorem atN_none {T : Sg} {p : Int32} : ∀ n, (∀ j, j < n → ¬ T 4 j = p) → atN T p n = -1
  | 0, _ => rfl
  | n + 1, h => by
    unfold atN
    rw [if_neg (h n (by omega))]
    exact atN_none n (fun j hj => h j (by omega))
theorem atN_hit {T : Sg} {p : Int32} {k : Nat} (hk : T 4 k = p) : ∀ n, k < n → (∀ i j, i < n → j < n → T 4 i = T 4 j → i = j) → atN T p n = nI k
  | 0, h, _ => absurd h (by omega)
  | n + 1, h, hd => by
    unfold atN
    by_cases hn : T 4 n = p
    · rw [if_pos hn, hd n k (by omega) h (hn.trans hk.symm)]
    · rw [if_neg hn]
      have : k ≠ n := fun q => hn (by rw [← q]; exact hk)
      exact atN_hit hk n (by omega) (fun i j hi hj => hd i j (by omega) (by omega))
/-- a contract of a method of the JDK's -/
theorem CtF {M : MI} {cd : Cd} {As : List Value} {σ : Sg} {rt : Rt} (hy : plainFor M.1 = true) (hcd : ∀ q ∈ cd, Snd M.1.cls M.2.1 M.2.2.1 M.2.2.2.1 (rmM M) q.1 q.2) (hlen : (lg_sl As).length ≤ M.2.2.1) (hlaw : M.2.2.2.1 ≠ lawRet)
    (h : ∀ X : Kt, Go cd rt X → X 0 (lv_args 0 As) [] σ) : Ct M As σ rt := by
  intro l G
  refine va_MetF (cc := M.2.1) (maxL := M.2.2.1) (ret := M.2.2.2.1) hy rfl ?_
  intro p e s m args below meth c s₁ B hml hv
  obtain ⟨rfl, hP, hK, hI, hG⟩ := hv
  have hts := atoms_spec (ws := wsM M) B.pre
  have C : Cx none M.1.cls M.2.1 M.2.2.1 M.2.2.2.1 (rmM M) G rt (Aw (ga G)) 0 0 p e (rmM M) s m (sM (ga G) As).toArray below meth c (MQ below (Qg G rt) (sM (ga G) As).toArray s 0 0 (Aw (ga G))) :=
    ⟨⟨B.exec, B.bytes, hml, findClass_of_methodNamed B.named, fun w hw => hts w (List.mem_cons_of_mem _ hw)⟩, fun _ => ⟨B.returns, rfl, rfl, rfl, rfl⟩, B.notSynchronized, ⟨hK, hI, hG⟩, rfl, fun _ h => h, ⟨Nat.zero_le _, Nat.zero_le _⟩, fun _ _ h => by cases h⟩
  have hl := lv_entry (sM (ga G) As) (n := M.2.2.1) (by rw [sl_len]; exact hlen)
  rw [lM_args] at hl
  rw [lg_entry_eq]
  exact h (Wm M.2.2.1 G (Aw (ga G)) 0 0 p l e (rmM M) s m (sM (ga G) As).toArray below meth c _) ⟨fun _ n pc ls st σ hh => wp_sound hcd C (fun _ _ _ _ h => h) n pc ls st σ hh, fun is pc ls st σ hh H locs rls hP hS hl => hh H locs rls hP hS ⟨hl.1, hl.2.1, fun q hq => hl.2.2 q (by
    obtain ⟨q0, h0, rfl⟩ := List.mem_map.mp hq
    exact List.mem_map.mpr ⟨q0, (List.mem_filter.mp h0).1, rfl⟩)⟩⟩ s.heap [] _ hP va_S.rf hl
/-- whether two are beside -/
def besN (x y : Nat) : Bool := decide ((x + 12 - y) % 12 = 1) || decide ((x + 12 - y) % 12 = 11)
def bes (T : Sg) (a b : Nat) : Bool := besN (pl T a) (pl T b)
theorem fm12 : ∀ x, x < 12 → ∀ y, y < 12 → (0 ≤ (nI x - nI y) ^^^ 12 ∧ rm (nI x - nI y) 12 = nI ((x + 12 - y) % 12)) ∨ (¬ 0 ≤ (nI x - nI y) ^^^ 12 ∧ rm (nI x - nI y) 12 = 0 ∧ (x + 12 - y) % 12 = 0) ∨ (¬ 0 ≤ (nI x - nI y) ^^^ 12 ∧ ¬ rm (nI x - nI y) 12 = 0 ∧ rm (nI x - nI y) 12 + 12 = nI ((x + 12 - y) % 12)) := by decide +kernel
theorem ct_floorMod {x y : Nat} (hx : x < 12) (hy : y < 12) {v : Int32} (e : v = nI x - nI y) (σ : Sg) : Ct mJ9_floorMod_7cf53 [.int v, .int 12] σ (Ex (some (.int (nI ((x + 12 - y) % 12)))) σ) := by
  subst e
  refine CtF (by decide +kernel) zJ9_floorMod_7cf53 (Nat.le_of_ble_eq_true rfl) (by decide) (fun X go => ?_)
  refine go.1 [] 30 _ _ _ _ ?_
  refine And.intro (by decide) ?_
  rcases fm12 x hx y hy with ⟨h1, h2⟩ | ⟨h1, h2, h3⟩ | ⟨h1, h2, h3⟩
  · refine br_t h1 ?_
    rw [← h2]
    exact And.intro rfl rfl
  · refine br_f h1 ?_
    refine br_t h2 ?_
    rw [h3, show nI 0 = 0 from rfl, ← h2]
    exact And.intro rfl rfl
  · refine br_f h1 ?_
    refine br_f h2 ?_
    rw [← h3]
    exact And.intro rfl rfl
theorem one_or {b : Nat} (hb : b < 12) : (nI b = 1 ↔ b = 1) ∧ (nI b = 11 ↔ b = 11) := ⟨nI_eq (b := 1) (by omega) (by decide), nI_eq (b := 11) (by omega) (by decide)⟩
/-- two change places -/
def swT (T : Sg) (a b : Nat) : Sg := upr T 4 (upd (upd (T 4) a (T 4 b)) b (T 4 a))

theorem ct_stallAt_1 {n h b : Nat} {σ : Sg} (v : VTb n h b (Tq 1 σ)) (p : Int32) : Ct mX2_stallAt [.ref 1, .int p] σ (Ex (some (.int (atN (Tq 1 σ) p n))) σ) := by
  have hn8 := v.1.1
  have hn := v.1.2.2.1
  refine Ct.of (by decide +kernel) zX2_stallAt (Nat.le_of_ble_eq_true rfl) (by decide) (fun X go => ?_)
  have L : ∀ d k, k + d = n → (∀ j, j < k → ¬ Tq 1 σ 4 j = p) → X 2 [(0, .ref 1), (1, .int p), (2, .int (nI k))] [] σ := by
    intro d
    induction d with
    | zero =>
      intro k hk hj
      have hk : k = n := by omega
      subst hk
      refine go.1 [2] 20 _ _ _ _ ?_
      refine br_t (show Tq 1 σ 0 9 ≤ nI k by rw [hn]; exact nI_le (Nat.le_refl _) (by omega)) ?_
      rw [atN_none k hj]
      exact And.intro rfl rfl
    | succ d ih =>
      intro k hk hj
      have hk8 : k < 8 := by omega
      refine go.1 [2] 40 _ _ _ _ ?_
      refine br_f (show ¬ Tq 1 σ 0 9 ≤ nI k by rw [hn]; exact nI_ge (by omega) (by omega)) ?_
      refine Exists.intro k (And.intro ⟨rfl, hk8, by omega⟩ ?_)
      refine And.intro (fun (h5 : Tq 1 σ 4 k = p) => ?_) (fun (h5 : ¬ Tq 1 σ 4 k = p) => ?_)
      · rw [atN_hit h5 n (by omega) v.2.2.2.2.2.2.2.1]
        exact And.intro rfl rfl
      · have ihk := ih (k + 1) (by omega) (fun j hjk => by
          by_cases hjk2 : j = k
          · rw [hjk2]; exact h5
          · exact hj j (by omega))
        rw [nI_succ] at ihk
        exact ihk
  exact go.1 [2] 20 _ _ _ _ (L n 0 (by omega) (fun j hj => absurd hj (by omega)))
theorem ct_exchange_1 {a b : Nat} (ha : a < 8) (hb : b < 8) {av bv : Int32} (ea : av = nI a) (eb : bv = nI b) (T σ : Sg) : Ct mX2_exchange [.ref 1, .int av, .int bv] (putSq 1 T σ) (Ex none (putSq 1 (swT T a b) σ)) := by
  subst ea; subst eb
  refine Ct.of (by decide +kernel) zX2_exchange (Nat.le_of_ble_eq_true rfl) (by decide) (fun X go => ?_)
  refine go.1 [] 40 _ _ _ _ ?_
  refine Exists.intro a (And.intro ⟨rfl, ha, by omega⟩ ?_)
  refine Exists.intro b (And.intro ⟨rfl, hb, by omega⟩ ?_)
  refine Exists.intro a (And.intro ⟨rfl, ha, by omega⟩ ?_)
  refine Exists.intro b (And.intro ⟨rfl, hb, by omega⟩ ?_)
  refine And.intro rfl ?_
  show upr (upr (putSq 1 T σ) (1 + 4) (upd (T 4) a (T 4 b))) (1 + 4) (upd (upd (T 4) a (T 4 b)) b (T 4 a)) = _
  rw [upr_upr, putSq_upr (by decide)]
  rfl
theorem ct_areBeside_1 {n h c a b : Nat} {σ : Sg} (v : VTb n h c (Tq 1 σ)) (ha : a < 8) (hb : b < 8) {av bv : Int32} (ea : av = nI a) (eb : bv = nI b) : Ct mX2_areBeside [.ref 1, .int av, .int bv] σ (Ex (some (.int (zb (bes (Tq 1 σ) a b)))) σ) := by
  subst ea; subst eb
  obtain ⟨e1, p1⟩ := VTpl v ha
  obtain ⟨e2, p2⟩ := VTpl v hb
  refine Ct.of (by decide +kernel) zX2_areBeside (Nat.le_of_ble_eq_true rfl) (by decide) (fun X go => ?_)
  refine go.1 [] 40 _ _ _ _ ?_
  refine Exists.intro a (And.intro ⟨rfl, ha, by omega⟩ ?_)
  refine Exists.intro b (And.intro ⟨rfl, hb, by omega⟩ ?_)
  refine cl (ct_floorMod p1 p2 (show Tq 1 σ 4 a - Tq 1 σ 4 b = _ by rw [e1, e2]) σ) ?_
  have hm : (pl (Tq 1 σ) a + 12 - pl (Tq 1 σ) b) % 12 < 12 := Nat.mod_lt _ (by decide)
  obtain ⟨o1, o2⟩ := one_or hm
  refine And.intro (fun q => ?_) (fun q => ?_)
  · have q := o1.mp q
    rw [show bes (Tq 1 σ) a b = true by unfold bes besN; rw [q]; rfl]
    exact And.intro (Or.inr rfl) (And.intro rfl rfl)
  · have q : ¬ _ := fun z => q (o1.mpr z)
    refine And.intro (fun q2 => ?_) (fun q2 => ?_)
    · have q2 := o2.mp q2
      rw [show bes (Tq 1 σ) a b = true by unfold bes besN; rw [q2]; rfl]
      exact And.intro (Or.inr rfl) (And.intro rfl rfl)
    · have q2 : ¬ _ := fun z => q2 (o2.mpr z)
      rw [show bes (Tq 1 σ) a b = false by unfold bes besN; rw [decide_eq_false q, decide_eq_false q2]; rfl]
      exact And.intro (Or.inl rfl) (And.intro rfl rfl)
theorem ct_besideSet_1 {n h c a : Nat} {σ : Sg} (v : VTb n h c (Tq 1 σ)) (ha : a < 8) {av : Int32} (ea : av = nI a) : Ct mX2_besideSet [.ref 1, .int av] σ (Ex (some (.int (stG (bes (Tq 1 σ) a) n))) σ) := by
  subst ea
  have hn8 := v.1.1
  have hn := v.1.2.2.1
  refine Ct.of (by decide +kernel) zX2_besideSet (Nat.le_of_ble_eq_true rfl) (by decide) (fun X go => ?_)
  have L : ∀ d k, k + d = n → X 4 [(0, .ref 1), (1, .int (nI a)), (2, .int (stG (bes (Tq 1 σ) a) k)), (3, .int (nI k))] [] σ := by
    intro d
    induction d with
    | zero =>
      intro k hk
      have hk : k = n := by omega
      subst hk
      refine go.1 [4] 20 _ _ _ _ ?_
      refine br_t (show Tq 1 σ 0 9 ≤ nI k by rw [hn]; exact nI_le (Nat.le_refl _) (by omega)) ?_
      exact And.intro rfl rfl
    | succ d ih =>
      intro k hk
      have hk8 : k < 8 := by omega
      have ihk := ih (k + 1) (by omega)
      rw [nI_succ] at ihk
      refine go.1 [4] 60 _ _ _ _ ?_
      refine br_f (show ¬ Tq 1 σ 0 9 ≤ nI k by rw [hn]; exact nI_ge (by omega) (by omega)) ?_
      have cb := ct_areBeside_1 v ha hk8 (av := nI a) (bv := nI k) rfl rfl
      cases hq : bes (Tq 1 σ) a k with
      | true =>
        rw [hq] at cb
        refine cl cb ?_
        refine br_f (by decide) ?_
        rw [show stG (bes (Tq 1 σ) a) (k + 1) = stG (bes (Tq 1 σ) a) k ||| bit1 (nI k) from if_pos hq] at ihk
        exact ihk
      | false =>
        rw [hq] at cb
        refine cl cb ?_
        refine br_t (by decide) ?_
        rw [show stG (bes (Tq 1 σ) a) (k + 1) = stG (bes (Tq 1 σ) a) k from if_neg (by rw [hq]; decide)] at ihk
        exact ihk
  exact go.1 [4] 20 _ _ _ _ (L n 0 (by omega))
theorem ct_soldOut_1 {n : Nat} (hn8 : n ≤ 8) {σ : Sg} (hn : Tq 1 σ 0 9 = nI n) : Ct mX2_soldOut [.ref 1] σ (Ex (some (.int (stG (fun k => decide (Tq 1 σ 5 k = 0)) n))) σ) := by
  refine Ct.of (by decide +kernel) zX2_soldOut (Nat.le_of_ble_eq_true rfl) (by decide) (fun X go => ?_)
  have L : ∀ d k, k + d = n → X 4 [(0, .ref 1), (1, .int (stG (fun k => decide (Tq 1 σ 5 k = 0)) k)), (2, .int (nI k))] [] σ := by
    intro d
    induction d with
    | zero =>
      intro k hk
      have hk : k = n := by omega
      subst hk
      refine go.1 [4] 20 _ _ _ _ ?_
      refine br_t (show Tq 1 σ 0 9 ≤ nI k by rw [hn]; exact nI_le (Nat.le_refl _) (by omega)) ?_
      exact And.intro rfl rfl
    | succ d ih =>
      intro k hk
      have hk8 : k < 8 := by omega
      have ihk := ih (k + 1) (by omega)
      rw [nI_succ] at ihk
      refine go.1 [4] 60 _ _ _ _ ?_
      refine br_f (show ¬ Tq 1 σ 0 9 ≤ nI k by rw [hn]; exact nI_ge (by omega) (by omega)) ?_
      refine Exists.intro k (And.intro ⟨rfl, hk8, by omega⟩ ?_)
      refine And.intro (fun (h5 : Tq 1 σ 5 k = 0) => ?_) (fun (h5 : ¬ Tq 1 σ 5 k = 0) => ?_)
      · rw [show stG (fun k => decide (Tq 1 σ 5 k = 0)) (k + 1) = stG (fun k => decide (Tq 1 σ 5 k = 0)) k ||| bit1 (nI k) from if_pos (decide_eq_true h5)] at ihk
        exact ihk
      · rw [show stG (fun k => decide (Tq 1 σ 5 k = 0)) (k + 1) = stG (fun k => decide (Tq 1 σ 5 k = 0)) k from if_neg (fun z => h5 (of_decide_eq_true z))] at ihk
        exact ihk
  exact go.1 [4] 20 _ _ _ _ (L n 0 (by omega))
theorem ct_freePlaces_1 {n : Nat} (hn8 : n ≤ 8) {σ : Sg} (hn : Tq 1 σ 0 9 = nI n) : Ct mX2_freePlaces [.ref 1] σ (Ex (some (.int ((4095 : Int32) &&& (plN (Tq 1 σ) ((1 : Int32) <<< (nI n &&& 31) - 1) n ^^^ (-1))))) σ) := by
  refine Ct.of (by decide +kernel) zX2_freePlaces (Nat.le_of_ble_eq_true rfl) (by decide) (fun X go => ?_)
  refine go.1 [] 40 _ _ _ _ ?_
  refine cl (ct_placesOf_1 hn8 hn ((1 : Int32) <<< (Tq 1 σ 0 9 &&& 31) - 1)) ?_
  rw [hn]
  exact And.intro rfl rfl
theorem ct_allCoin_1 {n : Nat} (hn8 : n ≤ 8) {σ : Sg} (hn : Tq 1 σ 0 9 = nI n) : Ct mX2_allCoin [.ref 1] σ (Ex (some (.int (suG (Tq 1 σ 6) n))) σ) := by
  refine Ct.of (by decide +kernel) zX2_allCoin (Nat.le_of_ble_eq_true rfl) (by decide) (fun X go => ?_)
  have L : ∀ d k, k + d = n → X 4 [(0, .ref 1), (1, .int (suG (Tq 1 σ 6) k)), (2, .int (nI k))] [] σ := by
    intro d
    induction d with
    | zero =>
      intro k hk
      have hk : k = n := by omega
      subst hk
      refine go.1 [4] 20 _ _ _ _ ?_
      refine br_t (show Tq 1 σ 0 9 ≤ nI k by rw [hn]; exact nI_le (Nat.le_refl _) (by omega)) ?_
      exact And.intro rfl rfl
    | succ d ih =>
      intro k hk
      have hk8 : k < 8 := by omega
      have ihk := ih (k + 1) (by omega)
      rw [nI_succ] at ihk
      refine go.1 [4] 60 _ _ _ _ ?_
      refine br_f (show ¬ Tq 1 σ 0 9 ≤ nI k by rw [hn]; exact nI_ge (by omega) (by omega)) ?_
      refine Exists.intro k (And.intro ⟨rfl, hk8, by omega⟩ ?_)
      exact ihk
  exact go.1 [4] 20 _ _ _ _ (L n 0 (by omega))

theorem ct_stallAt_10 {n h b : Nat} {σ : Sg} (v : VTb n h b (Tq 10 σ)) (p : Int32) : Ct mX2_stallAt [.ref 10, .int p] σ (Ex (some (.int (atN (Tq 10 σ) p n))) σ) := by
  have hn8 := v.1.1
  have hn := v.1.2.2.1
  refine Ct.of (by decide +kernel) zX2_stallAt (Nat.le_of_ble_eq_true rfl) (by decide) (fun X go => ?_)
  have L : ∀ d k, k + d = n → (∀ j, j < k → ¬ Tq 10 σ 4 j = p) → X 2 [(0, .ref 10), (1, .int p), (2, .int (nI k))] [] σ := by
    intro d
    induction d with
    | zero =>
      intro k hk hj
      have hk : k = n := by omega
      subst hk
      refine go.1 [2] 20 _ _ _ _ ?_
      refine br_t (show Tq 10 σ 0 9 ≤ nI k by rw [hn]; exact nI_le (Nat.le_refl _) (by omega)) ?_
      rw [atN_none k hj]
      exact And.intro rfl rfl
    | succ d ih =>
      intro k hk hj
      have hk8 : k < 8 := by omega
      refine go.1 [2] 40 _ _ _ _ ?_
      refine br_f (show ¬ Tq 10 σ 0 9 ≤ nI k by rw [hn]; exact nI_ge (by omega) (by omega)) ?_
      refine Exists.intro k (And.intro ⟨rfl, hk8, by omega⟩ ?_)
      refine And.intro (fun (h5 : Tq 10 σ 4 k = p) => ?_) (fun (h5 : ¬ Tq 10 σ 4 k = p) => ?_)
      · rw [atN_hit h5 n (by omega) v.2.2.2.2.2.2.2.1]
        exact And.intro rfl rfl
      · have ihk := ih (k + 1) (by omega) (fun j hjk => by
          by_cases hjk2 : j = k
          · rw [hjk2]; exact h5
          · exact hj j (by omega))
        rw [nI_succ] at ihk
        exact ihk
  exact go.1 [2] 20 _ _ _ _ (L n 0 (by omega) (fun j hj => absurd hj (by omega)))
theorem ct_exchange_10 {a b : Nat} (ha : a < 8) (hb : b < 8) {av bv : Int32} (ea : av = nI a) (eb : bv = nI b) (T σ : Sg) : Ct mX2_exchange [.ref 10, .int av, .int bv] (putSq 10 T σ) (Ex none (putSq 10 (swT T a b) σ)) := by
  subst ea; subst eb
  refine Ct.of (by decide +kernel) zX2_exchange (Nat.le_of_ble_eq_true rfl) (by decide) (fun X go => ?_)
  refine go.1 [] 40 _ _ _ _ ?_
  refine Exists.intro a (And.intro ⟨rfl, ha, by omega⟩ ?_)
  refine Exists.intro b (And.intro ⟨rfl, hb, by omega⟩ ?_)
  refine Exists.intro a (And.intro ⟨rfl, ha, by omega⟩ ?_)
  refine Exists.intro b (And.intro ⟨rfl, hb, by omega⟩ ?_)
  refine And.intro rfl ?_
  show upr (upr (putSq 10 T σ) (10 + 4) (upd (T 4) a (T 4 b))) (10 + 4) (upd (upd (T 4) a (T 4 b)) b (T 4 a)) = _
  rw [upr_upr, putSq_upr (by decide)]
  rfl
theorem ct_areBeside_10 {n h c a b : Nat} {σ : Sg} (v : VTb n h c (Tq 10 σ)) (ha : a < 8) (hb : b < 8) {av bv : Int32} (ea : av = nI a) (eb : bv = nI b) : Ct mX2_areBeside [.ref 10, .int av, .int bv] σ (Ex (some (.int (zb (bes (Tq 10 σ) a b)))) σ) := by
  subst ea; subst eb
  obtain ⟨e1, p1⟩ := VTpl v ha
  obtain ⟨e2, p2⟩ := VTpl v hb
  refine Ct.of (by decide +kernel) zX2_areBeside (Nat.le_of_ble_eq_true rfl) (by decide) (fun X go => ?_)
  refine go.1 [] 40 _ _ _ _ ?_
  refine Exists.intro a (And.intro ⟨rfl, ha, by omega⟩ ?_)
  refine Exists.intro b (And.intro ⟨rfl, hb, by omega⟩ ?_)
  refine cl (ct_floorMod p1 p2 (show Tq 10 σ 4 a - Tq 10 σ 4 b = _ by rw [e1, e2]) σ) ?_
  have hm : (pl (Tq 10 σ) a + 12 - pl (Tq 10 σ) b) % 12 < 12 := Nat.mod_lt _ (by decide)
  obtain ⟨o1, o2⟩ := one_or hm
  refine And.intro (fun q => ?_) (fun q => ?_)
  · have q := o1.mp q
    rw [show bes (Tq 10 σ) a b = true by unfold bes besN; rw [q]; rfl]
    exact And.intro (Or.inr rfl) (And.intro rfl rfl)
  · have q : ¬ _ := fun z => q (o1.mpr z)
    refine And.intro (fun q2 => ?_) (fun q2 => ?_)
    · have q2 := o2.mp q2
      rw [show bes (Tq 10 σ) a b = true by unfold bes besN; rw [q2]; rfl]
      exact And.intro (Or.inr rfl) (And.intro rfl rfl)
    · have q2 : ¬ _ := fun z => q2 (o2.mpr z)
      rw [show bes (Tq 10 σ) a b = false by unfold bes besN; rw [decide_eq_false q, decide_eq_false q2]; rfl]
      exact And.intro (Or.inl rfl) (And.intro rfl rfl)
theorem ct_besideSet_10 {n h c a : Nat} {σ : Sg} (v : VTb n h c (Tq 10 σ)) (ha : a < 8) {av : Int32} (ea : av = nI a) : Ct mX2_besideSet [.ref 10, .int av] σ (Ex (some (.int (stG (bes (Tq 10 σ) a) n))) σ) := by
  subst ea
  have hn8 := v.1.1
  have hn := v.1.2.2.1
  refine Ct.of (by decide +kernel) zX2_besideSet (Nat.le_of_ble_eq_true rfl) (by decide) (fun X go => ?_)
  have L : ∀ d k, k + d = n → X 4 [(0, .ref 10), (1, .int (nI a)), (2, .int (stG (bes (Tq 10 σ) a) k)), (3, .int (nI k))] [] σ := by
    intro d
    induction d with
    | zero =>
      intro k hk
      have hk : k = n := by omega
      subst hk
      refine go.1 [4] 20 _ _ _ _ ?_
      refine br_t (show Tq 10 σ 0 9 ≤ nI k by rw [hn]; exact nI_le (Nat.le_refl _) (by omega)) ?_
      exact And.intro rfl rfl
    | succ d ih =>
      intro k hk
      have hk8 : k < 8 := by omega
      have ihk := ih (k + 1) (by omega)
      rw [nI_succ] at ihk
      refine go.1 [4] 60 _ _ _ _ ?_
      refine br_f (show ¬ Tq 10 σ 0 9 ≤ nI k by rw [hn]; exact nI_ge (by omega) (by omega)) ?_
      have cb := ct_areBeside_10 v ha hk8 (av := nI a) (bv := nI k) rfl rfl
      cases hq : bes (Tq 10 σ) a k with
      | true =>
        rw [hq] at cb
        refine cl cb ?_
        refine br_f (by decide) ?_
        rw [show stG (bes (Tq 10 σ) a) (k + 1) = stG (bes (Tq 10 σ) a) k ||| bit1 (nI k) from if_pos hq] at ihk
        exact ihk
      | false =>
        rw [hq] at cb
        refine cl cb ?_
        refine br_t (by decide) ?_
        rw [show stG (bes (Tq 10 σ) a) (k + 1) = stG (bes (Tq 10 σ) a) k from if_neg (by rw [hq]; decide)] at ihk
        exact ihk
  exact go.1 [4] 20 _ _ _ _ (L n 0 (by omega))
theorem ct_soldOut_10 {n : Nat} (hn8 : n ≤ 8) {σ : Sg} (hn : Tq 10 σ 0 9 = nI n) : Ct mX2_soldOut [.ref 10] σ (Ex (some (.int (stG (fun k => decide (Tq 10 σ 5 k = 0)) n))) σ) := by
  refine Ct.of (by decide +kernel) zX2_soldOut (Nat.le_of_ble_eq_true rfl) (by decide) (fun X go => ?_)
  have L : ∀ d k, k + d = n → X 4 [(0, .ref 10), (1, .int (stG (fun k => decide (Tq 10 σ 5 k = 0)) k)), (2, .int (nI k))] [] σ := by
    intro d
    induction d with
    | zero =>
      intro k hk
      have hk : k = n := by omega
      subst hk
      refine go.1 [4] 20 _ _ _ _ ?_
      refine br_t (show Tq 10 σ 0 9 ≤ nI k by rw [hn]; exact nI_le (Nat.le_refl _) (by omega)) ?_
      exact And.intro rfl rfl
    | succ d ih =>
      intro k hk
      have hk8 : k < 8 := by omega
      have ihk := ih (k + 1) (by omega)
      rw [nI_succ] at ihk
      refine go.1 [4] 60 _ _ _ _ ?_
      refine br_f (show ¬ Tq 10 σ 0 9 ≤ nI k by rw [hn]; exact nI_ge (by omega) (by omega)) ?_
      refine Exists.intro k (And.intro ⟨rfl, hk8, by omega⟩ ?_)
      refine And.intro (fun (h5 : Tq 10 σ 5 k = 0) => ?_) (fun (h5 : ¬ Tq 10 σ 5 k = 0) => ?_)
      · rw [show stG (fun k => decide (Tq 10 σ 5 k = 0)) (k + 1) = stG (fun k => decide (Tq 10 σ 5 k = 0)) k ||| bit1 (nI k) from if_pos (decide_eq_true h5)] at ihk
        exact ihk
      · rw [show stG (fun k => decide (Tq 10 σ 5 k = 0)) (k + 1) = stG (fun k => decide (Tq 10 σ 5 k = 0)) k from if_neg (fun z => h5 (of_decide_eq_true z))] at ihk
        exact ihk
  exact go.1 [4] 20 _ _ _ _ (L n 0 (by omega))
theorem ct_freePlaces_10 {n : Nat} (hn8 : n ≤ 8) {σ : Sg} (hn : Tq 10 σ 0 9 = nI n) : Ct mX2_freePlaces [.ref 10] σ (Ex (some (.int ((4095 : Int32) &&& (plN (Tq 10 σ) ((1 : Int32) <<< (nI n &&& 31) - 1) n ^^^ (-1))))) σ) := by
  refine Ct.of (by decide +kernel) zX2_freePlaces (Nat.le_of_ble_eq_true rfl) (by decide) (fun X go => ?_)
  refine go.1 [] 40 _ _ _ _ ?_
  refine cl (ct_placesOf_10 hn8 hn ((1 : Int32) <<< (Tq 10 σ 0 9 &&& 31) - 1)) ?_
  rw [hn]
  exact And.intro rfl rfl
theorem ct_allCoin_10 {n : Nat} (hn8 : n ≤ 8) {σ : Sg} (hn : Tq 10 σ 0 9 = nI n) : Ct mX2_allCoin [.ref 10] σ (Ex (some (.int (suG (Tq 10 σ 6) n))) σ) := by
  refine Ct.of (by decide +kernel) zX2_allCoin (Nat.le_of_ble_eq_true rfl) (by decide) (fun X go => ?_)
  have L : ∀ d k, k + d = n → X 4 [(0, .ref 10), (1, .int (suG (Tq 10 σ 6) k)), (2, .int (nI k))] [] σ := by
    intro d
    induction d with
    | zero =>
      intro k hk
      have hk : k = n := by omega
      subst hk
      refine go.1 [4] 20 _ _ _ _ ?_
      refine br_t (show Tq 10 σ 0 9 ≤ nI k by rw [hn]; exact nI_le (Nat.le_refl _) (by omega)) ?_
      exact And.intro rfl rfl
    | succ d ih =>
      intro k hk
      have hk8 : k < 8 := by omega
      have ihk := ih (k + 1) (by omega)
      rw [nI_succ] at ihk
      refine go.1 [4] 60 _ _ _ _ ?_
      refine br_f (show ¬ Tq 10 σ 0 9 ≤ nI k by rw [hn]; exact nI_ge (by omega) (by omega)) ?_
      refine Exists.intro k (And.intro ⟨rfl, hk8, by omega⟩ ?_)
      exact ihk
  exact go.1 [4] 20 _ _ _ _ (L n 0 (by omega))

/-! the reference -/
theorem ct_stallAtM {n h b : Nat} {T : Sg} (v : VTb n h b T) (p : Int32) (σ : Sg) : Ct mX5_stallAt [.ref 45, .int p] (MS σ T) (Ex (some (.int (atN T p n))) (MS σ T)) := by
  have hn8 := v.1.1
  have hn := v.1.2.2.1
  refine Ct.of (by decide +kernel) zX5_stallAt (Nat.le_of_ble_eq_true rfl) (by decide) (fun X go => ?_)
  have L : ∀ d k, k + d = n → X 4 [(0, .ref 45), (1, .int p), (2, .int (atN T p k)), (3, .int (nI k))] [] (MS σ T) := by
    intro d
    induction d with
    | zero =>
      intro k hk
      have hk : k = n := by omega
      subst hk
      refine go.1 [4] 20 _ _ _ _ ?_
      refine Exists.intro 1 (And.intro ⟨rfl, by decide, by decide⟩ ?_)
      refine br_t (show T 0 9 ≤ nI k by rw [hn]; exact nI_le (Nat.le_refl _) (by omega)) ?_
      exact And.intro rfl rfl
    | succ d ih =>
      intro k hk
      have hk8 : k < 8 := by omega
      have ihk := ih (k + 1) (by omega)
      rw [nI_succ] at ihk
      refine go.1 [4] 40 _ _ _ _ ?_
      refine Exists.intro 1 (And.intro ⟨rfl, by decide, by decide⟩ ?_)
      refine br_f (show ¬ T 0 9 ≤ nI k by rw [hn]; exact nI_ge (by omega) (by omega)) ?_
      refine cl (ct_its (w := 1) hk8 (by decide) (kv := nI k) rfl (wv := 1) rfl σ T) ?_
      refine And.intro (fun (h5 : T 4 k = p) => ?_) (fun (h5 : ¬ T 4 k = p) => ?_)
      · rw [show atN T p (k + 1) = nI k from if_pos h5] at ihk
        exact ihk
      · rw [show atN T p (k + 1) = atN T p k from if_neg h5] at ihk
        exact ihk
  exact go.1 [4] 20 _ _ _ _ (L n 0 (by omega))
theorem ct_swaps {a b : Nat} (ha : a < 8) (hb : b < 8) {av bv : Int32} (ea : av = nI a) (eb : bv = nI b) (σ T : Sg) : Ct mX5_swaps [.ref 45, .int av, .int bv] (MS σ T) (Ex none (MS σ (swT T a b))) := by
  subst ea; subst eb
  refine Ct.of (by decide +kernel) zX5_swaps (Nat.le_of_ble_eq_true rfl) (by decide) (fun X go => ?_)
  refine go.1 [] 60 _ _ _ _ ?_
  refine cl (ct_its (w := 1) ha (by decide) (kv := nI a) rfl (wv := 1) rfl σ T) ?_
  refine cl (ct_at (a := a) (b := 1) rfl rfl _) ?_
  refine cl (ct_its (w := 1) hb (by decide) (kv := nI b) rfl (wv := 1) rfl σ T) ?_
  refine Exists.intro (28 + 5 * a + 1) (And.intro ⟨rfl, by omega, by omega⟩ ?_)
  refine cl (ct_at (a := b) (b := 1) rfl rfl _) ?_
  refine Exists.intro (28 + 5 * b + 1) (And.intro ⟨rfl, by omega, by omega⟩ ?_)
  refine And.intro rfl ?_
  have e1 : up2 (MS σ T) 46 (28 + 5 * a + 1) (T 4 b) = MS σ (upr T 4 (upd (T 4) a (T 4 b))) := MS_upd ha (by decide) _
  have e2 : up2 (MS σ (upr T 4 (upd (T 4) a (T 4 b)))) 46 (28 + 5 * b + 1) (T 4 a) = MS σ (swT T a b) := by
    rw [MS_upd hb (by decide)]
    show MS σ (upr (upr T 4 _) 4 _) = _
    rw [upr_upr]
    rfl
  show up2 (up2 (MS σ T) 46 (28 + 5 * a + 1) (T 4 b)) 46 (28 + 5 * b + 1) (T 4 a) = _
  rw [e1, e2]
theorem ct_isBeside {n h c a b : Nat} {T : Sg} (v : VTb n h c T) (ha : a < 8) (hb : b < 8) {av bv : Int32} (ea : av = nI a) (eb : bv = nI b) (σ : Sg) : Ct mX5_isBeside [.ref 45, .int av, .int bv] (MS σ T) (Ex (some (.int (zb (bes T a b)))) (MS σ T)) := by
  obtain ⟨e1, p1⟩ := VTpl v ha
  obtain ⟨e2, p2⟩ := VTpl v hb
  refine Ct.of (by decide +kernel) zX5_isBeside (Nat.le_of_ble_eq_true rfl) (by decide) (fun X go => ?_)
  refine go.1 [] 60 _ _ _ _ ?_
  have c1 := ct_its (w := 1) ha (by decide) ea (wv := 1) rfl σ T
  rw [show T (3 + 1) a = nI (pl T a) from e1] at c1
  have c2 := ct_its (w := 1) hb (by decide) eb (wv := 1) rfl σ T
  rw [show T (3 + 1) b = nI (pl T b) from e2] at c2
  refine cl c1 ?_
  refine cl c2 ?_
  refine And.intro (by decide) ?_
  have em : nI (pl T a) + 12 - nI (pl T b) - (nI (pl T a) + 12 - nI (pl T b)) / 12 * 12 = nI ((pl T a + 12 - pl T b) % 12) := by
    rw [show nI (pl T a) + 12 = nI (pl T a + 12) from nI_add _ 12, pk_sub (by omega)]
    exact nI_m12 (by omega)
  have hm : (pl T a + 12 - pl T b) % 12 < 12 := Nat.mod_lt _ (by decide)
  obtain ⟨o1, o2⟩ := one_or hm
  rw [← em] at o1 o2
  refine And.intro (fun q => ?_) (fun q => ?_)
  · have q := o1.mp q
    rw [show bes T a b = true by unfold bes besN; rw [q]; rfl]
    exact And.intro (Or.inr rfl) (And.intro rfl rfl)
  · have q : ¬ _ := fun z => q (o1.mpr z)
    refine And.intro (fun q2 => ?_) (fun q2 => ?_)
    · have q2 := o2.mp q2
      rw [show bes T a b = true by unfold bes besN; rw [q2]; rfl]
      exact And.intro (Or.inr rfl) (And.intro rfl rfl)
    · have q2 : ¬ _ := fun z => q2 (o2.mpr z)
      rw [show bes T a b = false by unfold bes besN; rw [decide_eq_false q, decide_eq_false q2]; rfl]
      exact And.intro (Or.inl rfl) (And.intro rfl rfl)
theorem ct_besideSetM {n h c a : Nat} {T : Sg} (v : VTb n h c T) (ha : a < 8) {av : Int32} (ea : av = nI a) (σ : Sg) : Ct mX5_besideSet [.ref 45, .int av] (MS σ T) (Ex (some (.int (stG (bes T a) n))) (MS σ T)) := by
  subst ea
  have hn8 := v.1.1
  have hn := v.1.2.2.1
  refine Ct.of (by decide +kernel) zX5_besideSet (Nat.le_of_ble_eq_true rfl) (by decide) (fun X go => ?_)
  have L : ∀ d k, k + d = n → X 4 [(0, .ref 45), (1, .int (nI a)), (2, .int (stG (bes T a) k)), (3, .int (nI k))] [] (MS σ T) := by
    intro d
    induction d with
    | zero =>
      intro k hk
      have hk : k = n := by omega
      subst hk
      refine go.1 [4] 20 _ _ _ _ ?_
      refine Exists.intro 1 (And.intro ⟨rfl, by decide, by decide⟩ ?_)
      refine br_t (show T 0 9 ≤ nI k by rw [hn]; exact nI_le (Nat.le_refl _) (by omega)) ?_
      exact And.intro rfl rfl
    | succ d ih =>
      intro k hk
      have hk8 : k < 8 := by omega
      have ihk := ih (k + 1) (by omega)
      rw [nI_succ] at ihk
      refine go.1 [4] 60 _ _ _ _ ?_
      refine Exists.intro 1 (And.intro ⟨rfl, by decide, by decide⟩ ?_)
      refine br_f (show ¬ T 0 9 ≤ nI k by rw [hn]; exact nI_ge (by omega) (by omega)) ?_
      have cb := ct_isBeside v ha hk8 (av := nI a) (bv := nI k) rfl rfl σ
      cases hq : bes T a k with
      | true =>
        rw [hq] at cb
        refine cl cb ?_
        refine br_f (by decide) ?_
        rw [show stG (bes T a) (k + 1) = stG (bes T a) k ||| bit1 (nI k) from if_pos hq] at ihk
        exact ihk
      | false =>
        rw [hq] at cb
        refine cl cb ?_
        refine br_t (by decide) ?_
        rw [show stG (bes T a) (k + 1) = stG (bes T a) k from if_neg (by rw [hq]; decide), ← Int32.or_zero (a := stG (bes T a) k)] at ihk
        exact ihk
  exact go.1 [4] 20 _ _ _ _ (L n 0 (by omega))
theorem ct_emptySet {n : Nat} (hn8 : n ≤ 8) {T : Sg} (hn : T 0 9 = nI n) (σ : Sg) : Ct mX5_emptySet [.ref 45] (MS σ T) (Ex (some (.int (stG (fun k => decide (T 5 k = 0)) n))) (MS σ T)) := by
  refine Ct.of (by decide +kernel) zX5_emptySet (Nat.le_of_ble_eq_true rfl) (by decide) (fun X go => ?_)
  have L : ∀ d k, k + d = n → X 4 [(0, .ref 45), (1, .int (stG (fun k => decide (T 5 k = 0)) k)), (2, .int (nI k))] [] (MS σ T) := by
    intro d
    induction d with
    | zero =>
      intro k hk
      have hk : k = n := by omega
      subst hk
      refine go.1 [4] 20 _ _ _ _ ?_
      refine Exists.intro 1 (And.intro ⟨rfl, by decide, by decide⟩ ?_)
      refine br_t (show T 0 9 ≤ nI k by rw [hn]; exact nI_le (Nat.le_refl _) (by omega)) ?_
      exact And.intro rfl rfl
    | succ d ih =>
      intro k hk
      have hk8 : k < 8 := by omega
      have ihk := ih (k + 1) (by omega)
      rw [nI_succ] at ihk
      refine go.1 [4] 60 _ _ _ _ ?_
      refine Exists.intro 1 (And.intro ⟨rfl, by decide, by decide⟩ ?_)
      refine br_f (show ¬ T 0 9 ≤ nI k by rw [hn]; exact nI_ge (by omega) (by omega)) ?_
      refine cl (ct_its (w := 2) hk8 (by decide) (kv := nI k) rfl (wv := 2) rfl σ T) ?_
      refine And.intro (fun (h5 : T 5 k = 0) => ?_) (fun (h5 : ¬ T 5 k = 0) => ?_)
      · rw [show stG (fun k => decide (T 5 k = 0)) (k + 1) = stG (fun k => decide (T 5 k = 0)) k ||| bit1 (nI k) from if_pos (decide_eq_true h5)] at ihk
        exact ihk
      · rw [show stG (fun k => decide (T 5 k = 0)) (k + 1) = stG (fun k => decide (T 5 k = 0)) k from if_neg (fun z => h5 (of_decide_eq_true z)), ← Int32.or_zero (a := stG (fun k => decide (T 5 k = 0)) k)] at ihk
        exact ihk
  exact go.1 [4] 20 _ _ _ _ (L n 0 (by omega))
theorem ct_sumOf {n : Nat} (hn8 : n ≤ 8) {T : Sg} (hn : T 0 9 = nI n) {w : Nat} (hw : w < 5) {wv : Int32} (ew : wv = nI w) (σ : Sg) : Ct mX5_sumOf [.ref 45, .int wv] (MS σ T) (Ex (some (.int (suG (T (3 + w)) n))) (MS σ T)) := by
  refine Ct.of (by decide +kernel) zX5_sumOf (Nat.le_of_ble_eq_true rfl) (by decide) (fun X go => ?_)
  have L : ∀ d k, k + d = n → X 4 [(0, .ref 45), (1, .int wv), (2, .int (suG (T (3 + w)) k)), (3, .int (nI k))] [] (MS σ T) := by
    intro d
    induction d with
    | zero =>
      intro k hk
      have hk : k = n := by omega
      subst hk
      refine go.1 [4] 20 _ _ _ _ ?_
      refine Exists.intro 1 (And.intro ⟨rfl, by decide, by decide⟩ ?_)
      refine br_t (show T 0 9 ≤ nI k by rw [hn]; exact nI_le (Nat.le_refl _) (by omega)) ?_
      exact And.intro rfl rfl
    | succ d ih =>
      intro k hk
      have hk8 : k < 8 := by omega
      have ihk := ih (k + 1) (by omega)
      rw [nI_succ] at ihk
      refine go.1 [4] 60 _ _ _ _ ?_
      refine Exists.intro 1 (And.intro ⟨rfl, by decide, by decide⟩ ?_)
      refine br_f (show ¬ T 0 9 ≤ nI k by rw [hn]; exact nI_ge (by omega) (by omega)) ?_
      refine cl (ct_its hk8 hw (kv := nI k) rfl ew σ T) ?_
      exact ihk
  exact go.1 [4] 20 _ _ _ _ (L n 0 (by omega))
theorem ct_everyPlace {n h b : Nat} {T : Sg} (v : VTb n h b T) (σ : Sg) : Ct mX5_everyPlace [.ref 45] (MS σ T) (Ex (some (.int (plN T ((1 : Int32) <<< (nI n &&& 31) - 1) n))) (MS σ T)) := by
  have hn := v.1.2.2.1
  refine Ct.of (by decide +kernel) zX5_everyPlace (Nat.le_of_ble_eq_true rfl) (by decide) (fun X go => ?_)
  refine go.1 [] 40 _ _ _ _ ?_
  refine Exists.intro 1 (And.intro ⟨rfl, by decide, by decide⟩ ?_)
  refine cl (ct_placesM v ((1 : Int32) <<< (T 0 9 &&& 31) - 1) σ) ?_
  rw [hn]
  exact And.intro rfl rfl

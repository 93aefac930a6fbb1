/-! ITEMS AS NUMBERS: is it one; the square, how many stalls, where the next token (or the fault) begins -/
abbrev Rsl : Type := Bool × Sg × Nat × Nat
section IT
variable (B : Nat → Nat) (m : Nat)
def stC (T : Sg) (n kd v f : Nat) : Rsl := bif iW B m f 8 then (bif isNm B m (nx B m f) 0 99 then (true, adT T n (nI kd) (nI v) (nI (val B m (nx B m f))), n + 1, nx B m (nx B m f)) else (false, T, n, nx B m f)) else (true, adT T n (nI kd) (nI v) 20, n + 1, f)
def stB' (T : Sg) (n kd f : Nat) : Rsl := bif isNm B m f 0 11 && decide (atN T (nI (val B m f)) n < 0) then stC B m T n kd (val B m f) (nx B m f) else (false, T, n, f)
def stA (T : Sg) (n kd f : Nat) : Rsl := bif iW B m f 7 then stB' B m T n kd (nx B m f) else (false, T, n, f)
def stI (T : Sg) (n kd f : Nat) : Rsl := bif Nat.blt n 8 then stA B m T n kd (nx B m f) else (false, T, n, f)
def vz (g : Nat → Int32) (a k v : Nat) : Nat → Int32 := fun p => if a ≤ p ∧ p < k then nI v else g p
def visT (T : Sg) (a b v : Nat) : Sg := upr T 1 (vz (T 1) a (b + 1) v)
def viC (T : Sg) (n a b f : Nat) : Rsl := bif iW B m f 11 then (bif isNm B m (nx B m f) 0 20 then (true, visT T a b (val B m (nx B m f)), n, nx B m (nx B m f)) else (false, T, n, nx B m f)) else (false, T, n, f)
def viB (T : Sg) (n a f : Nat) : Rsl := bif iW B m f 10 then (bif isNm B m (nx B m f) a 11 then viC B m T n a (val B m (nx B m f)) (nx B m (nx B m f)) else (false, T, n, nx B m f)) else viC B m T n a a f
def viI (T : Sg) (n f : Nat) : Rsl := bif isNm B m (nx B m f) 0 11 then viB B m T n (val B m (nx B m f)) (nx B m (nx B m f)) else (false, T, n, nx B m f)
def shI (T : Sg) (n f : Nat) (is : Int32) : Rsl := bif isNm B m (nx B m f) 0 11 then (true, upr T 2 (upd (T 2) (val B m (nx B m f)) is), n, nx B m (nx B m f)) else (false, T, n, nx B m f)
def spI (T : Sg) (n f : Nat) : Rsl := bif isNm B m (nx B m f) 0 11 then (true, upr T 0 (upd (T 0) 8 (nI (val B m (nx B m f)))), n, nx B m (nx B m f)) else (false, T, n, nx B m f)
def itI (T : Sg) (n f : Nat) : Rsl := bif Nat.blt (kdW B m f) 7 then stI B m T n (kdW B m f) f else bif iW B m f 9 then viI B m T n f else bif iW B m f 12 then shI B m T n f 1 else bif iW B m f 13 then shI B m T n f 0 else bif iW B m f 14 then spI B m T n f else (false, T, n, f)
def txI : Nat → Nat → Sg → Nat → Nat → Rsl
  | 0, _, T, n, f => (false, T, n, f)
  | d + 1, i, T, n, f => bif (itI B m T n f).1 then (bif Nat.blt (itI B m T n f).2.2.2 m then (bif Nat.beq (B (itI B m T n f).2.2.2) 59 then txI d (i + 1) (itI B m T n f).2.1 (itI B m T n f).2.2.1 (nx B m (itI B m T n f).2.2.2) else (false, T, n, (itI B m T n f).2.2.2)) else (true, (itI B m T n f).2.1, (itI B m T n f).2.2.1, i)) else (false, T, n, (itI B m T n f).2.2.2)
end IT
theorem VT_sh {n h b : Nat} {T : Sg} (v : VTb n h b T) (f : Nat → Int32) : VTb n h b (upr T 2 f) := ⟨v.1, v.2.1, v.2.2.1, v.2.2.2.1, v.2.2.2.2.1, v.2.2.2.2.2.1, v.2.2.2.2.2.2⟩
theorem VT_vz {n h b : Nat} {T : Sg} (v : VTb n h b T) {a c x : Nat} (hx : x ≤ 20) : VTb n h b (visT T a c x) := VT_vis v (fun p hp => by
  unfold vz
  split
  · exact ⟨x, hx, rfl⟩
  · exact v.2.2.2.2.2.1 p hp)
theorem ZT_vz {T : Sg} (z : ZT T) {a c x : Nat} (hc : c < 12) : ZT (visT T a c x) := ⟨z.1, ⟨fun j hj => by
  show vz (T 1) a (c + 1) x j = 0
  unfold vz
  rw [if_neg (by omega)]
  exact z.2.1.1 j hj, z.2.1.2⟩, z.2.2⟩
/-- what an item that is one leaves -/
def Good (m hh : Nat) (f : Nat) (r : Rsl) : Prop := r.1 = true → VT r.2.2.1 hh r.2.1 ∧ ZT r.2.1 ∧ f < r.2.2.2 ∧ r.2.2.2 ≤ m
theorem Good_f {m hh f : Nat} {T : Sg} {n g : Nat} : Good m hh f (false, T, n, g) := fun h => absurd h (by show ¬ false = true; decide)
theorem bif_c {α : Type} {b : Bool} {x y : α} {P : α → Prop} (h1 : b = true → P x) (h2 : b = false → P y) : P (bif b then x else y) := by
  cases b with
  | true => exact h1 rfl
  | false => exact h2 rfl
theorem atN_c {T : Sg} {p : Int32} {n : Nat} (hn : n ≤ 8) (h : atN T p n < 0) : atN T p n = -1 := by
  rcases atN_or T p n with q | ⟨k, hk, q⟩
  · exact q
  · rw [q] at h
    exact absurd h (nI_pos (by omega))
theorem st_good {B : Nat → Nat} {m n hh kd f : Nat} {T : Sg} (v : VT n hh T) (z : ZT T) (hf : f < m) (hk : kd < 7) : Good m hh f (stI B m T n kd f) := by
  have f1 := nx_gt (B := B) hf
  unfold stI
  refine bif_c (fun q0 => ?_) (fun _ => Good_f)
  have q0 : n < 8 := Eq.mp Nat.blt_eq q0
  unfold stA
  refine bif_c (fun q1 => ?_) (fun _ => Good_f)
  have f2 := nx_gt (B := B) (iW_lt q1)
  unfold stB'
  refine bif_c (fun q2 => ?_) (fun _ => Good_f)
  obtain ⟨q2, q3⟩ := Bool.and_eq_true_iff.mp q2
  have q3 := atN_c v.1.1 (of_decide_eq_true q3)
  have f3 := nx_gt (B := B) (isNm_lt q2)
  have v2 := (isNm_t q2).2.2
  unfold stC
  refine bif_c (fun q4 => ?_) (fun _ => ?_)
  · have f4 := nx_gt (B := B) (iW_lt q4)
    refine bif_c (fun q5 => ?_) (fun _ => Good_f)
    have f5 := nx_gt (B := B) (isNm_lt q5)
    have v5 := (isNm_t q5).2.2
    exact fun _ => ⟨VT_ad v q0 hk (show val B m (nx B m (nx B m f)) < 12 by omega) v5 rfl rfl rfl q3, ZT_ad z q0 _ _ _, by show f < nx B m (nx B m (nx B m (nx B m (nx B m f)))); omega, f5.2⟩
  · exact fun _ => ⟨VT_ad v q0 hk (show val B m (nx B m (nx B m f)) < 12 by omega) (c := 20) (by decide) rfl rfl rfl q3, ZT_ad z q0 _ _ _, by show f < nx B m (nx B m (nx B m f)); omega, f3.2⟩
theorem vi_good {B : Nat → Nat} {m n hh f : Nat} {T : Sg} (v : VT n hh T) (z : ZT T) (hf : f < m) : Good m hh f (viI B m T n f) := by
  have f1 := nx_gt (B := B) hf
  unfold viI
  refine bif_c (fun q1 => ?_) (fun _ => Good_f)
  have f2 := nx_gt (B := B) (isNm_lt q1)
  have v1 := (isNm_t q1).2.2
  have C : ∀ b g, b ≤ 11 → f < g → Good m hh f (viC B m T n (val B m (nx B m f)) b g) := by
    intro b g hb hg
    unfold viC
    refine bif_c (fun q3 => ?_) (fun _ => Good_f)
    have f4 := nx_gt (B := B) (iW_lt q3)
    refine bif_c (fun q5 => ?_) (fun _ => Good_f)
    have f5 := nx_gt (B := B) (isNm_lt q5)
    exact fun _ => ⟨VT_vz v (isNm_t q5).2.2, ZT_vz z (by omega), by show f < nx B m (nx B m g); omega, f5.2⟩
  unfold viB
  refine bif_c (fun q2 => ?_) (fun _ => C _ _ v1 (by omega))
  have f3 := nx_gt (B := B) (iW_lt q2)
  refine bif_c (fun q3 => ?_) (fun _ => Good_f)
  have f4 := nx_gt (B := B) (isNm_lt q3)
  exact C _ _ (isNm_t q3).2.2 (by omega)
theorem sh_good {B : Nat → Nat} {m n hh f : Nat} {T : Sg} (v : VT n hh T) (z : ZT T) (hf : f < m) (is : Int32) : Good m hh f (shI B m T n f is) := by
  have f1 := nx_gt (B := B) hf
  unfold shI
  refine bif_c (fun q1 => ?_) (fun _ => Good_f)
  have f2 := nx_gt (B := B) (isNm_lt q1)
  have v1 := (isNm_t q1).2.2
  exact fun _ => ⟨VT_sh v _, ⟨z.1, ⟨z.2.1.1, Zr_upd z.2.1.2 (by omega)⟩, z.2.2⟩, by show f < nx B m (nx B m f); omega, f2.2⟩
theorem sp_good {B : Nat → Nat} {m n hh f : Nat} {T : Sg} (v : VT n hh T) (z : ZT T) (hf : f < m) : Good m hh f (spI B m T n f) := by
  have f1 := nx_gt (B := B) hf
  unfold spI
  refine bif_c (fun q1 => ?_) (fun _ => Good_f)
  have f2 := nx_gt (B := B) (isNm_lt q1)
  have v1 := (isNm_t q1).2.2
  exact fun _ => ⟨VT_row0 v (Or.inl ⟨rfl, _, show val B m (nx B m f) < 12 by omega, rfl⟩), ZT_row0 z (by decide), by show f < nx B m (nx B m f); omega, f2.2⟩
theorem kdW_lt {B : Nat → Nat} {m f : Nat} (h : kdW B m f < 7) : iW B m f (kix (kdW B m f)) = true := by
  unfold kdW at h ⊢
  exact firstN_hit (P := fun k => iW B m f (kix k)) 7 0 (by omega)
theorem it_good {B : Nat → Nat} {m n hh f : Nat} {T : Sg} (v : VT n hh T) (z : ZT T) : Good m hh f (itI B m T n f) := by
  unfold itI
  refine bif_c (fun q => ?_) (fun _ => ?_)
  · have q : kdW B m f < 7 := Eq.mp Nat.blt_eq q
    exact st_good v z (iW_lt (kdW_lt q)) q
  refine bif_c (fun q => vi_good v z (iW_lt q)) (fun _ => ?_)
  refine bif_c (fun q => sh_good v z (iW_lt q) _) (fun _ => ?_)
  refine bif_c (fun q => sh_good v z (iW_lt q) _) (fun _ => ?_)
  exact bif_c (fun q => sp_good v z (iW_lt q)) (fun _ => Good_f)
/-! the class: readItem -/
abbrev CS (σ T : Sg) (r : Nat → Int32) : Sg := putSq 10 T (upr σ 32 r)
theorem CS_upr (σ T : Sg) (r g : Nat → Int32) : upr (CS σ T r) 32 g = CS σ T g := by
  funext i
  by_cases q : i = 32
  · subst q
    rw [upr_in]
    exact ((putSq_out (by omega)).trans (upr_in _ _ _)).symm
  · rw [upr_out q]
    rcases sq_cases 10 i with ⟨j, hj, rfl⟩ | h
    · exact (putSq_in hj).trans (putSq_in hj).symm
    · rw [show CS σ T r i = upr σ 32 r i from putSq_out h, show CS σ T g i = upr σ 32 g i from putSq_out h, upr_out q, upr_out q]
theorem cs_on {B : Nat → Nat} {m : Nat} {σ : Sg} (tb : TB σ B m) {T : Sg} {r : Nat → Int32} {e : Nat} (e1 : r 1 = nI m) (e4 : r 4 = nI e) (he : e ≤ m) : Ct mX3_readOn [.ref 32] (CS σ T r) (fun x σ' => x = none ∧ ∃ r', σ' = CS σ T r' ∧ TSr B m r' (skp B m e)) := by
  have c := ct_on (τ := CS σ T r) (B := B) (m := m) (e := e) tb e1 e4 he
  have : (fun (x : Option Value) σ' => x = none ∧ ∃ r', σ' = upr (CS σ T r) 32 r' ∧ TSr B m r' (skp B m e)) = (fun x σ' => x = none ∧ ∃ r', σ' = CS σ T r' ∧ TSr B m r' (skp B m e)) := by
    funext x σ'
    congr 1
    congr 1
    funext r'
    rw [CS_upr]
  rw [← this]
  exact c
theorem cs_nx {B : Nat → Nat} {m : Nat} {σ : Sg} (tb : TB σ B m) {T : Sg} {r : Nat → Int32} {f : Nat} (ts : TSr B m r f) (hf : f ≤ m) : Ct mX3_readOn [.ref 32] (CS σ T r) (fun x σ' => x = none ∧ ∃ r', σ' = CS σ T r' ∧ TSr B m r' (nx B m f)) := cs_on tb ts.1 ts.2.2.2.1 (tE_le hf).2
def RI (σ : Sg) (B : Nat → Nat) (m : Nat) (res : Rsl) : Rt := fun x σ' => x = some (.int (zb res.1)) ∧ ∃ U r', σ' = CS σ U r' ∧ ZT U ∧ r' 1 = nI m ∧ r' 3 = nI res.2.2.2 ∧ (res.1 = true → U = res.2.1 ∧ TSr B m r' res.2.2.2)
theorem RI_f {σ : Sg} {B : Nat → Nat} {m : Nat} {res : Rsl} {T U : Sg} {n f : Nat} {r : Nat → Int32} (hr : (false, T, n, f) = res) (z : ZT U) (ts : TSr B m r f) : RI σ B m res (some (.int 0)) (CS σ U r) := by
  subst hr
  exact ⟨rfl, U, r, rfl, z, ts.1, ts.2.2.1, fun h => absurd h (by show ¬ false = true; decide)⟩
theorem RI_t {σ : Sg} {B : Nat → Nat} {m : Nat} {res : Rsl} {T : Sg} {n f : Nat} {r : Nat → Int32} (hr : (true, T, n, f) = res) (z : ZT T) (ts : TSr B m r f) : RI σ B m res (some (.int 1)) (CS σ T r) := by
  subst hr
  exact ⟨rfl, T, r, rfl, z, ts.1, ts.2.2.1, fun _ => ⟨rfl, ts⟩⟩
theorem bif_t {α : Type} {b : Bool} {x y : α} (h : b = true) : (bif b then x else y) = x := by rw [h]; rfl
theorem bif_f {α : Type} {b : Bool} {x y : α} (h : b = false) : (bif b then x else y) = y := by rw [h]; rfl
theorem ad_goods (T : Sg) (n : Nat) (kd p g g' : Int32) : upr (adT T n kd p g) 5 (upd (adT T n kd p g 5) n g') = adT T n kd p g' := by
  funext j
  by_cases q : j = 5
  · subst q
    rw [upr_in, ad_5, ad_5]
    funext k
    unfold upd
    split <;> rfl
  · rw [upr_out q]
    unfold adT
    by_cases q0 : j = 0
    · subst q0; rfl
    · rw [upr_out q0, upr_out q0]
      by_cases q7 : j = 7
      · subst q7; rfl
      · rw [upr_out q7, upr_out q7]
        by_cases q6 : j = 6
        · subst q6; rfl
        · rw [upr_out q6, upr_out q6, upr_out q, upr_out q]
theorem ct_readStall {B : Nat → Nat} {m : Nat} {σ : Sg} (tb : TB σ B m) {T : Sg} {r : Nat → Int32} {n hh kd f : Nat} (v : VT n hh T) (z : ZT T) (ts : TSr B m r f) (hf : f < m) (hk : kd < 7) {kv : Int32} (ek : kv = nI kd) : Ct mX3_readStall [.ref 32, .ref 10, .int kv] (CS σ T r) (RI σ B m (stI B m T n kd f)) := by
  subst ek
  have hn8 := v.1.1
  have e9 : T 0 9 = nI n := v.1.2.2.1
  have f1 := nx_gt (B := B) hf
  generalize hres : stI B m T n kd f = res
  refine Ct.of (by decide +kernel) zX3_readStall (Nat.le_of_ble_eq_true rfl) (by decide) (fun X go => ?_)
  refine go.1 [] 100 _ _ _ _ ?_
  by_cases q0 : n < 8
  · refine br_t (show T 0 9 < nI 8 from by rw [e9]; exact nI_lt q0 (by decide)) ?_
    have hres : stA B m T n kd (nx B m f) = res := by rw [← hres]; exact (bif_t (Eq.mpr Nat.blt_eq q0)).symm
    refine clG (cs_nx tb ts (by omega)) (fun x τ hr => ?_)
    obtain ⟨rfl, r1, rfl, ts1⟩ := hr
    have cw := ct_isWord (τ := CS σ T r1) (k := 7) tb ts1 f1.2 (by decide)
    cases q1 : iW B m (nx B m f) 7 with
    | false =>
      rw [q1] at cw
      refine cl cw ?_
      refine br_t (by decide) ?_
      exact And.intro (Or.inl rfl) (RI_f (by rw [← hres]; exact (bif_f q1).symm) z ts1)
    | true =>
      have hres : stB' B m T n kd (nx B m (nx B m f)) = res := by rw [← hres]; exact (bif_t q1).symm
      have f2 := nx_gt (B := B) (iW_lt q1)
      rw [q1] at cw
      refine cl cw ?_
      refine br_f (by decide) ?_
      refine clG (cs_nx tb ts1 (by omega)) (fun x τ hr => ?_)
      obtain ⟨rfl, r2, rfl, ts2⟩ := hr
      have cn := ct_isNum (τ := CS σ T r2) (a := 0) (b := 11) ts2 (by decide) (by decide) (lo := 0) (hi := 11) rfl rfl
      cases q2 : isNm B m (nx B m (nx B m f)) 0 11 with
      | false =>
        rw [q2] at cn
        refine cl cn ?_
        refine br_t (by decide) ?_
        exact And.intro (Or.inl rfl) (RI_f (by rw [← hres]; exact (bif_f (by rw [q2]; rfl)).symm) z ts2)
      | true =>
        have f3 := nx_gt (B := B) (isNm_lt q2)
        have v2 := (isNm_t q2).2.2
        have e5 : r2 5 = nI (val B m (nx B m (nx B m f))) := ts2.2.2.2.2 (isNm_t q2).1
        rw [q2] at cn
        refine cl cn ?_
        refine br_f (by decide) ?_
        have ca := ct_stallAt_10 (σ := CS σ T r2) (VT_tr v) (r2 5)
        rw [show atN (Tq 10 (CS σ T r2)) (r2 5) n = atN T (r2 5) n from atN_cong (T := Tq 10 (CS σ T r2)) (U := T) rfl _ n] at ca
        refine cl ca ?_
        refine And.intro (fun (q3 : atN T (r2 5) n < 0) => ?_) (fun (q3 : ¬ atN T (r2 5) n < 0) => ?_)
        · rw [e5] at q3
          have hres : stC B m T n kd (val B m (nx B m (nx B m f))) (nx B m (nx B m (nx B m f))) = res := by rw [← hres]; exact (bif_t (by rw [q2, decide_eq_true q3]; rfl)).symm
          have cad := ct_addStall_10 q0 e9 (nI kd) (r2 5) (upr σ 32 r2)
          rw [e5] at cad
          have zad : ZT (adT T n (nI kd) (nI (val B m (nx B m (nx B m f)))) 20) := ZT_ad z q0 _ _ _
          generalize hp : nI (val B m (nx B m (nx B m f))) = p at *
          rw [← e5] at cad
          refine cl cad ?_
          rw [e5]
          refine clG (cs_nx tb ts2 (by omega)) (fun x τ hr => ?_)
          obtain ⟨rfl, r3, rfl, ts3⟩ := hr
          have cw := ct_isWord (τ := CS σ (adT T n (nI kd) p 20) r3) (k := 8) tb ts3 f3.2 (by decide)
          cases q4 : iW B m (nx B m (nx B m (nx B m f))) 8 with
          | false =>
            rw [q4] at cw
            refine cl cw ?_
            refine br_t (by decide) ?_
            exact And.intro (Or.inr rfl) (RI_t (by rw [← hres, ← hp]; exact (bif_f q4).symm) zad ts3)
          | true =>
            have f4 := nx_gt (B := B) (iW_lt q4)
            rw [q4] at cw
            refine cl cw ?_
            refine br_f (by decide) ?_
            refine clG (cs_nx tb ts3 (by omega)) (fun x τ hr => ?_)
            obtain ⟨rfl, r4, rfl, ts4⟩ := hr
            have cn := ct_isNum (τ := CS σ (adT T n (nI kd) p 20) r4) (a := 0) (b := 99) ts4 (by decide) (by decide) (lo := 0) (hi := 99) rfl rfl
            cases q5 : isNm B m (nx B m (nx B m (nx B m (nx B m f)))) 0 99 with
            | false =>
              rw [q5] at cn
              refine cl cn ?_
              refine br_t (by decide) ?_
              refine And.intro (Or.inl rfl) (RI_f (T := T) (n := n) (by rw [← hres]; exact ((bif_t q4).trans (bif_f q5)).symm) zad ts4)
            | true =>
              have f5 := nx_gt (B := B) (isNm_lt q5)
              have e6 : r4 5 = nI (val B m (nx B m (nx B m (nx B m (nx B m f))))) := ts4.2.2.2.2 (isNm_t q5).1
              rw [q5] at cn
              refine cl cn ?_
              refine br_f (by decide) ?_
              refine Exists.intro (n) (And.intro ⟨rfl, by omega, by omega⟩ ?_)
              have es : up2 (CS σ (adT T n (nI kd) p 20) r4) 15 n (r4 5) = CS σ (adT T n (nI kd) p (r4 5)) r4 := by
                rw [← ad_goods T n (nI kd) p 20 (r4 5)]
                exact put2 (o := 10) (j := 5) (by decide) n (r4 5)
              have c9 := cs_nx (T := adT T n (nI kd) p (r4 5)) tb ts4 (by omega)
              rw [← es] at c9
              refine clG c9 (fun x τ hr => ?_)
              obtain ⟨rfl, r5, rfl, ts5⟩ := hr
              exact And.intro (Or.inr rfl) (RI_t (by rw [← hres, ← hp, e6]; exact ((bif_t q4).trans (bif_t q5)).symm) (ZT_ad z q0 _ _ _) ts5)
        · rw [e5] at q3
          exact And.intro (Or.inl rfl) (RI_f (by rw [← hres]; exact (bif_f (by rw [q2, decide_eq_false q3]; rfl)).symm) z ts2)
  · refine br_f (show ¬ T 0 9 < nI 8 from by rw [e9]; exact nI_nlt (by omega) (by omega)) ?_
    exact And.intro (Or.inl rfl) (RI_f (by rw [← hres]; exact (bif_f (by cases hb : Nat.blt n 8 with
      | false => rfl
      | true => exact absurd (Eq.mp Nat.blt_eq hb) q0)).symm) z ts)
theorem vz_0 (g : Nat → Int32) (a v : Nat) : vz g a a v = g := by
  funext p
  unfold vz
  rw [if_neg (by omega)]
theorem vz_s (g : Nat → Int32) {a k v : Nat} (h : a ≤ k) : upd (vz g a k v) k (nI v) = vz g a (k + 1) v := by
  funext p
  unfold upd vz
  by_cases e : p = k
  · rw [if_pos e, if_pos (by omega)]
  · rw [if_neg e]
    by_cases q : a ≤ p ∧ p < k
    · rw [if_pos q, if_pos (by omega)]
    · rw [if_neg q, if_neg (by omega)]
theorem ct_readVisits {B : Nat → Nat} {m : Nat} {σ : Sg} (tb : TB σ B m) {T : Sg} {r : Nat → Int32} {n hh f : Nat} (v : VT n hh T) (z : ZT T) (ts : TSr B m r f) (hf : f < m) : Ct mX3_readVisits [.ref 32, .ref 10] (CS σ T r) (RI σ B m (viI B m T n f)) := by
  have f1 := nx_gt (B := B) hf
  generalize hres : viI B m T n f = res
  refine Ct.of (by decide +kernel) zX3_readVisits (Nat.le_of_ble_eq_true rfl) (by decide) (fun X go => ?_)
  refine go.1 [64] 100 _ _ _ _ ?_
  refine clG (cs_nx tb ts (by omega)) (fun x τ hr => ?_)
  obtain ⟨rfl, r1, rfl, ts1⟩ := hr
  have cn := ct_isNum (τ := CS σ T r1) (a := 0) (b := 11) ts1 (by decide) (by decide) (lo := 0) (hi := 11) rfl rfl
  cases q1 : isNm B m (nx B m f) 0 11 with
  | false =>
    rw [q1] at cn
    refine cl cn ?_
    refine br_t (by decide) ?_
    exact And.intro (Or.inl rfl) (RI_f (by rw [← hres]; exact (bif_f q1).symm) z ts1)
  | true =>
    have hres : viB B m T n (val B m (nx B m f)) (nx B m (nx B m f)) = res := by rw [← hres]; exact (bif_t q1).symm
    have f2 := nx_gt (B := B) (isNm_lt q1)
    have v1 := (isNm_t q1).2.2
    have e1 : r1 5 = nI (val B m (nx B m f)) := ts1.2.2.2.2 (isNm_t q1).1
    generalize ha : val B m (nx B m f) = a at *
    rw [q1] at cn
    have H64 : ∀ (b g : Nat) (r : Nat → Int32), a ≤ b → b ≤ 11 → TSr B m r g → g ≤ m → viC B m T n a b g = res → X 64 [(0, .ref 32), (1, .ref 10), (2, .int (nI a)), (3, .int (nI b))] [] (CS σ T r) := by
      intro b g r hab hb tsg hg hres
      have cw := ct_isWord (τ := CS σ T r) (k := 11) tb tsg hg (by decide)
      refine go.1 [94] 60 _ _ _ _ ?_
      cases q3 : iW B m g 11 with
      | false =>
        rw [q3] at cw
        refine cl cw ?_
        refine br_t (by decide) ?_
        exact And.intro (Or.inl rfl) (RI_f (by rw [← hres]; exact (bif_f q3).symm) z tsg)
      | true =>
        have g1 := nx_gt (B := B) (iW_lt q3)
        rw [q3] at cw
        refine cl cw ?_
        refine br_f (by decide) ?_
        refine clG (cs_nx tb tsg hg) (fun x τ hr => ?_)
        obtain ⟨rfl, r5, rfl, ts5⟩ := hr
        have cn := ct_isNum (τ := CS σ T r5) (a := 0) (b := 20) ts5 (by decide) (by decide) (lo := 0) (hi := 20) rfl rfl
        cases q4 : isNm B m (nx B m g) 0 20 with
        | false =>
          rw [q4] at cn
          refine cl cn ?_
          refine br_t (by decide) ?_
          exact And.intro (Or.inl rfl) (RI_f (by rw [← hres]; exact ((bif_t q3).trans (bif_f q4)).symm) z ts5)
        | true =>
          have e5 : r5 5 = nI (val B m (nx B m g)) := ts5.2.2.2.2 (isNm_t q4).1
          have hres : (true, visT T a b (val B m (nx B m g)), n, nx B m (nx B m g)) = res := by rw [← hres]; exact ((bif_t q3).trans (bif_t q4)).symm
          generalize hv : val B m (nx B m g) = w at *
          rw [q4] at cn
          refine cl cn ?_
          refine br_f (by decide) ?_
          have L : ∀ d k, k + d = b + 1 → a ≤ k → X 94 [(0, .ref 32), (1, .ref 10), (2, .int (nI a)), (3, .int (nI b)), (4, .int (nI k))] [] (CS σ (upr T 1 (vz (T 1) a k w)) r5) := by
            intro d
            induction d with
            | zero =>
              intro k hk hak
              have hk : k = b + 1 := by omega
              subst hk
              refine go.1 [94] 60 _ _ _ _ ?_
              refine br_t (show nI b < nI (b + 1) from nI_lt (by omega) (by omega)) ?_
              refine clG (cs_nx tb ts5 (nx_le hg).2) (fun x τ hr => ?_)
              obtain ⟨rfl, r6, rfl, ts6⟩ := hr
              exact And.intro (Or.inr rfl) (RI_t hres (ZT_vz z (by omega)) ts6)
            | succ d ih =>
              intro k hk hak
              have ihk := ih (k + 1) (by omega) (by omega)
              have es : up2 (CS σ (upr T 1 (vz (T 1) a k w)) r5) 11 k (r5 5) = CS σ (upr T 1 (vz (T 1) a (k + 1) w)) r5 := by
                rw [e5]
                refine (put2 (o := 10) (j := 1) (by decide) k (nI w)).trans ?_
                rw [upr_in, upr_upr, vz_s (T 1) hak]
              rw [nI_succ k, ← es] at ihk
              refine go.1 [94] 60 _ _ _ _ ?_
              refine br_f (show ¬ nI b < nI k from nI_nlt (by omega) (by omega)) ?_
              refine Exists.intro (k) (And.intro ⟨rfl, by omega, by omega⟩ ?_)
              exact ihk
          have L0 := L (b + 1 - a) a (by omega) (Nat.le_refl a)
          rw [vz_0, upr_self] at L0
          exact L0
    refine cl cn ?_
    refine br_f (by decide) ?_
    refine clG (cs_nx tb ts1 (by omega)) (fun x τ hr => ?_)
    obtain ⟨rfl, r2, rfl, ts2⟩ := hr
    have cw := ct_isWord (τ := CS σ T r2) (k := 10) tb ts2 f2.2 (by decide)
    cases q2 : iW B m (nx B m (nx B m f)) 10 with
    | false =>
      rw [q2] at cw
      refine cl cw ?_
      refine br_t (by decide) ?_
      have h64 := H64 a (nx B m (nx B m f)) r2 (Nat.le_refl a) v1 ts2 f2.2 (by rw [← hres]; exact (bif_f q2).symm)
      rw [← e1] at h64
      exact h64
    | true =>
      have f3 := nx_gt (B := B) (iW_lt q2)
      rw [q2] at cw
      refine cl cw ?_
      refine br_f (by decide) ?_
      refine clG (cs_nx tb ts2 (by omega)) (fun x τ hr => ?_)
      obtain ⟨rfl, r3, rfl, ts3⟩ := hr
      have cn := ct_isNum (τ := CS σ T r3) (a := a) (b := 11) ts3 (by omega) (by decide) (lo := r1 5) (hi := 11) e1 rfl
      cases q3 : isNm B m (nx B m (nx B m (nx B m f))) a 11 with
      | false =>
        rw [q3] at cn
        refine cl cn ?_
        refine br_t (by decide) ?_
        exact And.intro (Or.inl rfl) (RI_f (by rw [← hres]; exact ((bif_t q2).trans (bif_f q3)).symm) z ts3)
      | true =>
        have f4 := nx_gt (B := B) (isNm_lt q3)
        have e3 : r3 5 = nI (val B m (nx B m (nx B m (nx B m f)))) := ts3.2.2.2.2 (isNm_t q3).1
        rw [q3] at cn
        refine cl cn ?_
        refine br_f (by decide) ?_
        refine clG (cs_nx tb ts3 (by omega)) (fun x τ hr => ?_)
        obtain ⟨rfl, r4, rfl, ts4⟩ := hr
        have h64 := H64 (val B m (nx B m (nx B m (nx B m f)))) (nx B m (nx B m (nx B m (nx B m f)))) r4 (isNm_t q3).2.1 (isNm_t q3).2.2 ts4 f4.2 (by rw [← hres]; exact ((bif_t q2).trans (bif_t q3)).symm)
        rw [← e1, ← e3] at h64
        exact h64
theorem ct_readShade {B : Nat → Nat} {m : Nat} {σ : Sg} (tb : TB σ B m) {T : Sg} {r : Nat → Int32} {n hh f : Nat} (v : VT n hh T) (z : ZT T) (ts : TSr B m r f) (hf : f < m) (is : Int32) : Ct mX3_readShade [.ref 32, .ref 10, .int is] (CS σ T r) (RI σ B m (shI B m T n f is)) := by
  have f1 := nx_gt (B := B) hf
  generalize hres : shI B m T n f is = res
  refine Ct.of (by decide +kernel) zX3_readShade (Nat.le_of_ble_eq_true rfl) (by decide) (fun X go => ?_)
  refine go.1 [] 100 _ _ _ _ ?_
  refine clG (cs_nx tb ts (by omega)) (fun x τ hr => ?_)
  obtain ⟨rfl, r1, rfl, ts1⟩ := hr
  have cn := ct_isNum (τ := CS σ T r1) (a := 0) (b := 11) ts1 (by decide) (by decide) (lo := 0) (hi := 11) rfl rfl
  cases q1 : isNm B m (nx B m f) 0 11 with
  | false =>
    rw [q1] at cn
    refine cl cn ?_
    refine br_t (by decide) ?_
    exact And.intro (Or.inl rfl) (RI_f (by rw [← hres]; exact (bif_f q1).symm) z ts1)
  | true =>
    have f2 := nx_gt (B := B) (isNm_lt q1)
    have v1 := (isNm_t q1).2.2
    have e1 : r1 5 = nI (val B m (nx B m f)) := ts1.2.2.2.2 (isNm_t q1).1
    rw [q1] at cn
    refine cl cn ?_
    refine br_f (by decide) ?_
    refine Exists.intro (val B m (nx B m f)) (And.intro ⟨e1, by omega, by omega⟩ ?_)
    have es : up2 (CS σ T r1) 12 (val B m (nx B m f)) is = CS σ (upr T 2 (upd (T 2) (val B m (nx B m f)) is)) r1 := put2 (o := 10) (j := 2) (by decide) _ _
    have c9 := cs_nx (T := upr T 2 (upd (T 2) (val B m (nx B m f)) is)) tb ts1 f1.2
    rw [← es] at c9
    refine clG c9 (fun x τ hr => ?_)
    obtain ⟨rfl, r2, rfl, ts2⟩ := hr
    exact And.intro (Or.inr rfl) (RI_t (by rw [← hres]; exact (bif_t q1).symm) ⟨z.1, ⟨z.2.1.1, Zr_upd z.2.1.2 (by omega)⟩, z.2.2⟩ ts2)
theorem ct_readSpring {B : Nat → Nat} {m : Nat} {σ : Sg} (tb : TB σ B m) {T : Sg} {r : Nat → Int32} {n hh f : Nat} (v : VT n hh T) (z : ZT T) (ts : TSr B m r f) (hf : f < m) : Ct mX3_readSpring [.ref 32, .ref 10] (CS σ T r) (RI σ B m (spI B m T n f)) := by
  have f1 := nx_gt (B := B) hf
  generalize hres : spI B m T n f = res
  refine Ct.of (by decide +kernel) zX3_readSpring (Nat.le_of_ble_eq_true rfl) (by decide) (fun X go => ?_)
  refine go.1 [] 100 _ _ _ _ ?_
  refine clG (cs_nx tb ts (by omega)) (fun x τ hr => ?_)
  obtain ⟨rfl, r1, rfl, ts1⟩ := hr
  have cn := ct_isNum (τ := CS σ T r1) (a := 0) (b := 11) ts1 (by decide) (by decide) (lo := 0) (hi := 11) rfl rfl
  cases q1 : isNm B m (nx B m f) 0 11 with
  | false =>
    rw [q1] at cn
    refine cl cn ?_
    refine br_t (by decide) ?_
    exact And.intro (Or.inl rfl) (RI_f (by rw [← hres]; exact (bif_f q1).symm) z ts1)
  | true =>
    have f2 := nx_gt (B := B) (isNm_lt q1)
    have e1 : r1 5 = nI (val B m (nx B m f)) := ts1.2.2.2.2 (isNm_t q1).1
    rw [q1] at cn
    refine cl cn ?_
    refine br_f (by decide) ?_
    refine And.intro ⟨rfl, rfl⟩ ?_
    have es : up2 (CS σ T r1) 10 8 (r1 5) = CS σ (upr T 0 (upd (T 0) 8 (r1 5))) r1 := put2 (o := 10) (j := 0) (by decide) _ _
    have c9 := cs_nx (T := upr T 0 (upd (T 0) 8 (r1 5))) tb ts1 f1.2
    rw [← es] at c9
    refine clG c9 (fun x τ hr => ?_)
    obtain ⟨rfl, r2, rfl, ts2⟩ := hr
    exact And.intro (Or.inr rfl) (RI_t (by rw [← hres, e1]; exact (bif_t q1).symm) (ZT_row0 z (by decide)) ts2)
/-- what a call answered is the answer -/
theorem RI_k {σ : Sg} {B : Nat → Nat} {m : Nat} {res : Rsl} {x : Option Value} {τ : Sg} (h : RI σ B m res x τ) : ∃ y : Int32, x = some (.int y) ∧ bz y := ⟨_, h.1, zb_bz _⟩
theorem ct_readItem {B : Nat → Nat} {m : Nat} {σ : Sg} (tb : TB σ B m) {T : Sg} {r : Nat → Int32} {n hh f : Nat} (v : VT n hh T) (z : ZT T) (ts : TSr B m r f) (hf : f ≤ m) : Ct mX3_readItem [.ref 32, .ref 10] (CS σ T r) (RI σ B m (itI B m T n f)) := by
  generalize hres : itI B m T n f = res
  refine Ct.of (by decide +kernel) zX3_readItem (Nat.le_of_ble_eq_true rfl) (by decide) (fun X go => ?_)
  refine go.1 [] 100 _ _ _ _ ?_
  have ck := ct_kind (τ := CS σ T r) tb ts hf
  unfold itI at hres
  by_cases q0 : kdW B m f < 7
  · have hf' := iW_lt (kdW_lt q0)
    rw [bif_t (Eq.mpr Nat.blt_eq q0)] at hres
    rw [show kdI (kdW B m f) = nI (kdW B m f) from if_pos q0] at ck
    refine cl ck ?_
    refine br_f (show ¬ nI (kdW B m f) < 0 from nI_pos (by omega)) ?_
    refine clG (ct_readStall tb v z ts hf' q0 rfl) (fun x τ hr => ?_)
    rw [hres] at hr
    obtain ⟨y, rfl, hy⟩ := RI_k hr
    exact And.intro hy hr
  · rw [bif_f (by cases hb : Nat.blt (kdW B m f) 7 with
      | false => rfl
      | true => exact absurd (Eq.mp Nat.blt_eq hb) q0)] at hres
    rw [show kdI (kdW B m f) = -1 from if_neg q0] at ck
    refine cl ck ?_
    refine br_t (by decide) ?_
    have c9 := ct_isWord (τ := CS σ T r) (k := 9) tb ts hf (by decide)
    cases q9 : iW B m f 9 with
    | true =>
      rw [bif_t q9] at hres
      rw [q9] at c9
      refine cl c9 ?_
      refine br_f (by decide) ?_
      refine clG (ct_readVisits tb v z ts (iW_lt q9)) (fun x τ hr => ?_)
      rw [hres] at hr
      obtain ⟨y, rfl, hy⟩ := RI_k hr
      exact And.intro hy hr
    | false =>
      rw [bif_f q9] at hres
      rw [q9] at c9
      refine cl c9 ?_
      refine br_t (by decide) ?_
      have c12 := ct_isWord (τ := CS σ T r) (k := 12) tb ts hf (by decide)
      cases q12 : iW B m f 12 with
      | true =>
        rw [bif_t q12] at hres
        rw [q12] at c12
        refine cl c12 ?_
        refine br_f (by decide) ?_
        refine clG (ct_readShade tb v z ts (iW_lt q12) 1) (fun x τ hr => ?_)
        rw [hres] at hr
        obtain ⟨y, rfl, hy⟩ := RI_k hr
        exact And.intro hy hr
      | false =>
        rw [bif_f q12] at hres
        rw [q12] at c12
        refine cl c12 ?_
        refine br_t (by decide) ?_
        have c13 := ct_isWord (τ := CS σ T r) (k := 13) tb ts hf (by decide)
        cases q13 : iW B m f 13 with
        | true =>
          rw [bif_t q13] at hres
          rw [q13] at c13
          refine cl c13 ?_
          refine br_f (by decide) ?_
          refine clG (ct_readShade tb v z ts (iW_lt q13) 0) (fun x τ hr => ?_)
          rw [hres] at hr
          obtain ⟨y, rfl, hy⟩ := RI_k hr
          exact And.intro hy hr
        | false =>
          rw [bif_f q13] at hres
          rw [q13] at c13
          refine cl c13 ?_
          refine br_t (by decide) ?_
          have c14 := ct_isWord (τ := CS σ T r) (k := 14) tb ts hf (by decide)
          cases q14 : iW B m f 14 with
          | true =>
            rw [bif_t q14] at hres
            rw [q14] at c14
            refine cl c14 ?_
            refine br_f (by decide) ?_
            refine clG (ct_readSpring tb v z ts (iW_lt q14)) (fun x τ hr => ?_)
            rw [hres] at hr
            have hr' := hr
            obtain ⟨hx, -⟩ := hr
            cases hb : res.1 with
            | true =>
              rw [hb] at hx
              subst hx
              refine br_f (show ¬ (1 : Int32) = 0 by decide) ?_
              exact And.intro (Or.inr rfl) hr'
            | false =>
              rw [hb] at hx
              subst hx
              refine br_t (show (0 : Int32) = 0 by decide) ?_
              exact And.intro (Or.inl rfl) hr'
          | false =>
            rw [bif_f q14] at hres
            rw [q14] at c14
            refine cl c14 ?_
            refine br_t (by decide) ?_
            exact And.intro (Or.inl rfl) (RI_f hres z ts)
/-- what a text comes to -/
def RTx (σ : Sg) (m : Nat) (res : Rsl) : Rt := fun x σ' => (res.1 = true → x = some (.int (nI res.2.2.2)) ∧ ∃ r, σ' = CS σ res.2.1 r ∧ r 1 = nI m ∧ ZT res.2.1) ∧ (res.1 = false → x = some (.int (-1 - nI res.2.2.2)) ∧ ∃ U r, σ' = CS σ U r ∧ ZT U ∧ r 1 = nI m)
theorem RTx_f {σ : Sg} {m : Nat} {res : Rsl} {T U : Sg} {n f : Nat} {r : Nat → Int32} {y : Int32} (hr : (false, T, n, f) = res) (z : ZT U) (e1 : r 1 = nI m) (ey : y = -1 - nI f) : RTx σ m res (some (.int y)) (CS σ U r) := by
  subst hr; subst ey
  exact ⟨fun h => absurd h (by show ¬ false = true; decide), fun _ => ⟨rfl, U, r, rfl, z, e1⟩⟩
theorem blt_t {a b : Nat} (h : a < b) : Nat.blt a b = true := Eq.mpr Nat.blt_eq h
theorem blt_f {a b : Nat} (h : ¬ a < b) : Nat.blt a b = false := by
  cases hb : Nat.blt a b with
  | false => rfl
  | true => exact absurd (Eq.mp Nat.blt_eq hb) h
theorem ct_readText {B : Nat → Nat} {m : Nat} {σ : Sg} (tb : TB σ B m) {T : Sg} {r : Nat → Int32} {n hh : Nat} (v : VT n hh T) (z : ZT T) (e1 : r 1 = nI m) : Ct mX3_readText [.ref 32, .ref 10] (CS σ T r) (RTx σ m (txI B m 120 1 T n (skp B m 0))) := by
  have hm := tb.1
  generalize hres : txI B m 120 1 T n (skp B m 0) = res
  refine Ct.of (by decide +kernel) zX3_readText (Nat.le_of_ble_eq_true rfl) (by decide) (fun X go => ?_)
  refine go.1 [7] 100 _ _ _ _ ?_
  have L : ∀ d i e n (T : Sg) (r : Nat → Int32), i + d = 121 → 1 ≤ i → e ≤ m → 2 * (i - 1) ≤ skp B m e → VT n hh T → ZT T → r 1 = nI m → r 4 = nI e → txI B m d i T n (skp B m e) = res → X 7 [(0, .ref 32), (1, .ref 10), (2, .int (nI i))] [] (CS σ T r) := by
    intro d
    induction d with
    | zero =>
      intro i e n T r hi hi1 he hs v z e1 e4 hres
      have := (skp_le (B := B) he).2
      omega
    | succ d ih =>
      intro i e n T r hi hi1 he hs v z e1 e4 hres
      have hsm := (skp_le (B := B) he).2
      generalize hF : skp B m e = f at hs hres hsm
      have con := cs_on tb e1 e4 he (T := T)
      rw [hF] at con
      refine go.1 [7] 90 _ _ _ _ ?_
      refine br_f (show ¬ nI 120 < nI i from nI_nlt (by omega) (by omega)) ?_
      refine clG con (fun x τ hr => ?_)
      obtain ⟨rfl, r1, rfl, ts1⟩ := hr
      have gd := it_good (B := B) (m := m) (f := f) v z
      refine clG (ct_readItem tb v z ts1 hsm) (fun x τ hr => ?_)
      obtain ⟨hx, U, r2, rfl, zU, a1, a3, hok⟩ := hr
      unfold txI at hres
      cases hb : (itI B m T n f).1 with
      | false =>
        rw [bif_f hb] at hres
        rw [hb] at hx
        subst hx
        refine br_t (show (0 : Int32) = 0 by decide) ?_
        exact RTx_f hres zU a1 (show -1 - r2 3 = _ by rw [a3])
      | true =>
        rw [bif_t hb] at hres
        rw [hb] at hx
        subst hx
        obtain ⟨rfl, ts2⟩ := hok hb
        obtain ⟨v2, z2, h1, h2⟩ := gd hb
        refine br_f (show ¬ (1 : Int32) = 0 by decide) ?_
        generalize hg : (itI B m T n f).2.2.2 = g at *
        have hs5 := srt_lt B m g
        by_cases q : g < m
        · rw [bif_t (blt_t q)] at hres
          refine br_f (show ¬ r2 2 = 0 from by rw [ts2.2.1]; exact fun w => absurd q (srt_0.mp ((nI_eq (by omega) (b := 0) (by decide)).mp w))) ?_
          by_cases q2 : B g = 59
          · rw [bif_t (show Nat.beq (B g) 59 = true from by rw [q2]; rfl)] at hres
            refine br_t (show r2 2 = nI 3 from by rw [ts2.2.1, srt_3.mpr ⟨q, q2⟩]) ?_
            have gt := nx_gt (B := B) q
            have ihk := ih (i + 1) (tE B m g) (itI B m T n f).2.2.1 (itI B m T n f).2.1 r2 (by omega) (by omega) (tE_le (by omega)).2 (show 2 * (i + 1 - 1) ≤ nx B m g by omega) v2 z2 ts2.1 ts2.2.2.2.1 hres
            rw [nI_succ i] at ihk
            exact ihk
          · rw [bif_f (show Nat.beq (B g) 59 = false from by cases w : Nat.beq (B g) 59 with
              | false => rfl
              | true => exact absurd (Nat.eq_of_beq_eq_true w) q2)] at hres
            refine br_f (show ¬ r2 2 = nI 3 from by rw [ts2.2.1]; exact fun w => q2 (srt_3.mp ((nI_eq (by omega) (by decide)).mp w)).2) ?_
            exact RTx_f hres z2 a1 (show -1 - r2 3 = _ by rw [a3])
        · rw [bif_f (blt_f q)] at hres
          refine br_t (show r2 2 = 0 from by rw [ts2.2.1, srt_0.mpr q]; rfl) ?_
          subst hres
          exact ⟨fun _ => ⟨rfl, r2, rfl, a1, z2⟩, fun h => absurd h (by show ¬ true = false; decide)⟩
  refine And.intro ⟨rfl, rfl⟩ ?_
  have L0 := L 120 1 0 n T (upd r 4 0) (by omega) (by omega) (by omega) (by omega) v z (by rw [upd_ne (by decide)]; exact e1) (by rw [upd_eq]; rfl) hres
  have es : up2 (CS σ T r) 32 4 0 = CS σ T (upd r 4 0) := CS_upr σ T r (upd r 4 0)
  rw [← es] at L0
  exact L0

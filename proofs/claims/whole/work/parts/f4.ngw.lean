/-! a RULE that does not ask for what grows -/
theorem q_gw_f {c : Nat → Nat} : ∀ n, q_gw c n = false → ∀ i, i < n → c i ≠ 100009 ∧ c i ≠ 100011
  | 0, _, i, hi => absurd hi (Nat.not_lt_zero i)
  | n + 1, h, i, hi => by
    have h : (q_gw c n || decide (c n = 100009 ∨ c n = 100011)) = false := h
    rw [Bool.or_eq_false_iff] at h
    rcases Nat.lt_or_ge i n with z | z
    · exact q_gw_f n h.1 i z
    · obtain rfl : i = n := by omega
      have k := of_decide_eq_false h.2
      exact ⟨fun e => k (Or.inl e), fun e => k (Or.inr e)⟩
theorem ev_run_w {w w' : Nat → Int64} {code : Nat → Nat} : ∀ (n i : Nat) (s : List Int64), (∀ k, i ≤ k → k < i + n → 100000 ≤ code k → code k < 100012 → w' (code k - 100000) = w (code k - 100000)) → ev_run w' code n i s = ev_run w code n i s
  | 0, _, _, _ => rfl
  | n + 1, i, s, h => by
    have e : ev_st w' (code i) s = ev_st w (code i) s := by
      unfold ev_st
      by_cases h1 : code i < 100000
      · rw [if_pos h1, if_pos h1]
      · rw [if_neg h1, if_neg h1]
        by_cases h2 : code i < 100012
        · rw [if_pos h2, if_pos h2, h i (by omega) (by omega) (by omega) h2]
        · rw [if_neg h2, if_neg h2]
    show ev_run w' code n (i + 1) (ev_st w' (code i) s) = ev_run w code n (i + 1) (ev_st w (code i) s)
    rw [e]
    exact ev_run_w n (i + 1) _ (fun k h1 h2 => h k (by omega) (by omega))
theorem ev_w {w w' : Nat → Int64} {code : Nat → Nat} {b e N : Nat} (he : e ≤ N) (hg : q_gw code N = false) (hw : ∀ v, v < 12 → v ≠ 9 → v ≠ 11 → w' v = w v) : ev code w' b e = ev code w b e := by
  unfold ev
  rcases Nat.lt_or_ge b e with z | z
  · rw [ev_run_w (e - b) b [] (fun k h1 h2 h3 h4 => hw _ (by omega) (by have := (q_gw_f N hg k (by omega)).1; omega) (by have := (q_gw_f N hg k (by omega)).2; omega))]
  · rw [show e - b = 0 by omega]
    rfl
theorem q_tst_w {R : qR} {w w' : Nat → Int64} {c : Nat} (hR : q_to R c ≤ q_len R) (hg : q_gw (q_cd R) (q_len R) = false) (hw : ∀ v, v < 12 → v ≠ 9 → v ≠ 11 → w' v = w v) : q_tst R w' c = q_tst R w c := by
  unfold q_tst
  rw [ev_w hR hg hw]
theorem q_lkc_w {R : qR} {w w' : Nat → Int64} {z : Int32} (hR : q_wf R) (hg : q_gw (q_cd R) (q_len R) = false) (hw : ∀ v, v < 12 → v ≠ 9 → v ≠ 11 → w' v = w v) : ∀ n c, c + n ≤ q_nc R → q_lkc R w' z n c = q_lkc R w z n c
  | 0, _, _ => rfl
  | n + 1, c, h => by
    have g := hR.2.2.2 c (by omega)
    have g1 := g.1
    have g2 := g.2.1
    have g3 := g.2.2.1
    show (if q_bar R c = false ∧ q_tst R w' c = true then q_hold (ev (q_cd R) w' (q_fr R c) (q_tf R c)) else q_lkc R w' z n (c + 1)) = (if q_bar R c = false ∧ q_tst R w c = true then q_hold (ev (q_cd R) w (q_fr R c) (q_tf R c)) else q_lkc R w z n (c + 1))
    rw [q_tst_w g3 hg hw, ev_w (e := q_tf R c) (by omega) hg hw, q_lkc_w hR hg hw n (c + 1) (by omega)]
theorem q_brc_w {R : qR} {w w' : Nat → Int64} (hR : q_wf R) (hg : q_gw (q_cd R) (q_len R) = false) (hw : ∀ v, v < 12 → v ≠ 9 → v ≠ 11 → w' v = w v) : ∀ n c, c + n ≤ q_nc R → q_brc R w' n c = q_brc R w n c
  | 0, _, _ => rfl
  | n + 1, c, h => by
    have g3 := (hR.2.2.2 c (by omega)).2.2.1
    show (if q_bar R c = true ∧ q_tst R w' c = true then true else q_brc R w' n (c + 1)) = (if q_bar R c = true ∧ q_tst R w c = true then true else q_brc R w n (c + 1))
    rw [q_tst_w g3 hg hw, q_brc_w hR hg hw n (c + 1) (by omega)]
/-- all but what grows -/
def eLx (S S' : qS) : Prop := ∀ i, i = 1 ∨ i = 3 ∨ (10 ≤ i ∧ i < 60 ∧ (i - 10) % 5 ≠ 0 ∧ (i - 10) % 5 ≠ 4) ∨ (60 ≤ i ∧ i < 140) → S' i = S i
theorem q_wd_x {S S' : qS} (e : eLx S S') {p a q : Nat} {wi : Option Nat} {n : Nat} (hp : p < 10) (hq : q < 8) (ho : ∀ o, wi = some o → o < 10) : ∀ v, v < 12 → v ≠ 9 → v ≠ 11 → q_wd S' p a q wi n v = q_wd S p a q wi n v
  | 0, _, _, _ => rfl
  | 1, _, _, _ => e _ (by omega)
  | 2, _, _, _ => e _ (by omega)
  | 3, _, _, _ => rfl
  | 4, _, _, _ => rfl
  | 5, _, _, _ => e _ (by omega)
  | 6, _, _, _ => rfl
  | 7, _, _, _ => by
    cases wi with
    | none => rfl
    | some o => exact e _ (by have := ho o rfl; omega)
  | 8, _, _, _ => rfl
  | 9, _, h, _ => absurd rfl h
  | 10, _, _, _ => e _ (by omega)
  | 11, _, _, h => absurd rfl h
  | n + 12, h, _, _ => absurd h (by omega)
/-- what is kept while another standing is asked for -/
def q_kpg (rf : Option qR) : Bool := match rf with
  | none => true
  | some R => !q_gw (q_cd R) (q_len R)
theorem q_lk_x {S S' : qS} (e : eLx S S') {rf : Option qR} (hR : ∀ R, rf = some R → q_wf R) (hk : q_kpg rf = true) {p a q : Nat} (hp : p < 10) (hq : q < 8) : q_lk S' rf p a q = q_lk S rf p a q := by
  cases rf with
  | none => exact e _ (by omega)
  | some R =>
    have hg : q_gw (q_cd R) (q_len R) = false := by
      have hk : (!q_gw (q_cd R) (q_len R)) = true := hk
      cases h : q_gw (q_cd R) (q_len R) with
      | false => rfl
      | true => rw [h] at hk; cases hk
    show q_lkc R (q_w S' p a q none 0) (S' (60 + 8 * p + q)) (q_nc R) 0 = q_lkc R (q_w S p a q none 0) (S (60 + 8 * p + q)) (q_nc R) 0
    rw [e (60 + 8 * p + q) (by omega)]
    exact q_lkc_w (hR R rfl) hg (fun v h1 h2 h3 => congrArg Int32.toInt64 (q_wd_x e hp hq (fun o ho => by cases ho) v h1 h2 h3)) _ 0 (by omega)
theorem q_br_x {S S' : qS} (e : eLx S S') {rf : Option qR} (hR : ∀ R, rf = some R → q_wf R) (hk : q_kpg rf = true) {p a q o n : Nat} (hp : p < 10) (hq : q < 8) (ho : o < 10) : q_br S' rf p a q o n = q_br S rf p a q o n := by
  cases rf with
  | none => rfl
  | some R =>
    have hg : q_gw (q_cd R) (q_len R) = false := by
      have hk : (!q_gw (q_cd R) (q_len R)) = true := hk
      cases h : q_gw (q_cd R) (q_len R) with
      | false => rfl
      | true => rw [h] at hk; cases hk
    exact q_brc_w (hR R rfl) hg (fun v h1 h2 h3 => congrArg Int32.toInt64 (q_wd_x e hp hq (fun o' ho' => by cases ho'; exact ho) v h1 h2 h3)) _ 0 (by omega)
theorem q_bk_x {S S' : qS} (e : eLx S S') {rf : Option qR} (hR : ∀ R, rf = some R → q_wf R) (hk : q_kpg rf = true) {p a q o n : Nat} (hp : p < 10) (ha : a < 8) (hq : q < 8) (ho : o < 10) : q_bk S' rf none p a q o n = q_bk S rf none p a q o n := by
  unfold q_bk
  show (if q = a then 1 else if S' (10 + 5 * p + 3) = nI 0 ∧ q_lk S' rf p a q ≤ q_lk S' rf p a a then 2 else if q_br S' rf p a q o n = true then 3 else 0) = (if q = a then 1 else if S (10 + 5 * p + 3) = nI 0 ∧ q_lk S rf p a q ≤ q_lk S rf p a a then 2 else if q_br S rf p a q o n = true then 3 else 0)
  rw [e (10 + 5 * p + 3) (by omega), q_lk_x e hR hk hp hq, q_lk_x e hR hk hp ha, q_br_x e hR hk hp hq ho]
theorem q_c2_x {S S' : qS} (e : eLx S S') {rf : Option qR} (hR : ∀ R, rf = some R → q_wf R) (hk : q_kpg rf = true) {i j x y : Nat} (hi : i < 10) (hj : j < 10) (hx : x < 8) (hy : y < 8) : q_c2 S' rf i j x y = q_c2 S rf i j x y := by
  unfold q_c2
  rw [q_bk_x e hR hk hi hx hy hj, q_bk_x e hR hk hj hy hx hi]
theorem lN_and (a b : Nat) : lN a &&& lN b = lN (a &&& b) := by
  apply Int64.toBitVec_inj.1
  show BitVec.ofNat 64 a &&& BitVec.ofNat 64 b = BitVec.ofNat 64 (a &&& b)
  apply BitVec.eq_of_getLsbD_eq
  intro i hi
  simp [hi]
theorem q_dx_and (x : Nat) : (x * 1103515245 + 12345) &&& 2147483647 = q_dx x := by
  have := Nat.and_two_pow_sub_one_eq_mod (x * 1103515245 + 12345) 31
  exact this
theorem q_yn_add (rf : Option qR) : ∀ (n : Nat) (T : qS) (x r : Nat) (co : Int32) (r0 : Nat) (c0 : Int32), q_yn rf n (T, x, r0 + r, c0 + co) = ((q_yn rf n (T, x, r, co)).1, (q_yn rf n (T, x, r, co)).2.1, r0 + (q_yn rf n (T, x, r, co)).2.2.1, c0 + (q_yn rf n (T, x, r, co)).2.2.2)
  | 0, _, _, _, _, _, _ => rfl
  | n + 1, T, x, r, co, r0, c0 => by
    rw [q_yn_s, q_yn_s]
    by_cases h : q_dw (q_dx x) (s_n T 1) = q_dw (q_dx (q_dx x)) (s_n T 1) ∨ q_can T rf (q_dw (q_dx x) (s_n T 1)) (q_dw (q_dx (q_dx x)) (s_n T 1)) = false
    · rw [q_y1_no h, q_y1_no h]
      exact q_yn_add rf n _ _ _ _ _ _
    · rw [q_y1_yes h, q_y1_yes h, Nat.add_assoc, Int32.add_assoc]
      exact q_yn_add rf n _ _ _ _ _ _


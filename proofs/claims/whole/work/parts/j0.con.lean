/-! OBJECTS ARE MADE -/
theorem ka_1 {σ s : qx_S} {q : Nat × Nat} {n : Nat} (e : s = qx_al σ q n) : s.1 = σ.1 + 1 := by rw [e]; rfl
theorem ka_2 {σ s : qx_S} {q : Nat × Nat} {n : Nat} (e : s = qx_al σ q n) : s.2.1 = σ.2.1 + n := by rw [e]; rfl
theorem ka_d {σ s : qx_S} {q : Nat × Nat} {n a : Nat} (e : s = qx_al σ q n) (h : a ≠ σ.1) : s.2.2.1 a = σ.2.2.1 a := by rw [e]; exact va_up_ne _ _ h
theorem ka_dn {σ s : qx_S} {q : Nat × Nat} {n a : Nat} (e : s = qx_al σ q n) (hn : σ.1 = a) : s.2.2.1 a = q := by rw [e, ← hn]; exact va_up_self _ _ _
theorem kx_sh {T : qx_T} {σ s : qx_S} {a : Nat} (h : s.2.2.1 a = σ.2.2.1 a) : qx_sh T s a = qx_sh T σ a := by unfold qx_sh; rw [h]
theorem kx_n {T : qx_T} {s : qx_S} {a : Nat} {q : Nat × Nat} (h : s.2.2.1 a = q) (hT : T a = none) : qx_sh T s a = q := by unfold qx_sh; rw [hT]; exact h
theorem ka_s {T : qx_T} {σ s : qx_S} {q : Nat × Nat} {n a : Nat} (e : s = qx_al σ q n) (h : a ≠ σ.1) : qx_sh T s a = qx_sh T σ a := kx_sh (ka_d e h)
theorem ka_n {T : qx_T} {σ s : qx_S} {q : Nat × Nat} {n a : Nat} (e : s = qx_al σ q n) (hn : σ.1 = a) (hT : T a = none) : qx_sh T s a = q := kx_n (ka_dn e hn) hT
theorem ka_i {σ s : qx_S} {q : Nat × Nat} {n a j : Nat} (e : s = qx_al σ q n) (h : a ≠ σ.1) : qx_mi s a j = qx_mi σ a j := by rw [e]; exact congrFun (va_up_ne σ.2.2.2.1 _ h) j
theorem ka_l {σ s : qx_S} {q : Nat × Nat} {n a j : Nat} (e : s = qx_al σ q n) (h : a ≠ σ.1) : qx_ml s a j = qx_ml σ a j := by rw [e]; exact congrFun (va_up_ne σ.2.2.2.2.1 _ h) j
theorem ka_r {σ s : qx_S} {q : Nat × Nat} {n a j : Nat} (e : s = qx_al σ q n) (h : a ≠ σ.1) : qx_mr s a j = qx_mr σ a j := by rw [e]; exact congrFun (va_up_ne σ.2.2.2.2.2 _ h) j
theorem ka_0 {σ s : qx_S} {q : Nat × Nat} {n a j : Nat} (e : s = qx_al σ q n) (hn : σ.1 = a) : qx_mi s a j = nI 0 := by rw [e, ← hn]; exact congrFun (va_up_self σ.2.2.2.1 _ _) j
theorem ka_z {σ s : qx_S} {q : Nat × Nat} {n a j : Nat} (e : s = qx_al σ q n) (hn : σ.1 = a) : qx_mr s a j = none := by rw [e, ← hn]; exact congrFun (va_up_self σ.2.2.2.2.2 _ _) j
theorem kw_s {T : qx_T} {σ s : qx_S} {a k b : Nat} {v : Option Nat} (e : s = qx_wr σ a k v) : qx_sh T s b = qx_sh T σ b := kx_sh (by rw [e]; rfl)
theorem kw_i {σ s : qx_S} {a k b j : Nat} {v : Option Nat} (e : s = qx_wr σ a k v) : qx_mi s b j = qx_mi σ b j := by rw [e]; rfl
theorem kw_l {σ s : qx_S} {a k b j : Nat} {v : Option Nat} (e : s = qx_wr σ a k v) : qx_ml s b j = qx_ml σ b j := by rw [e]; rfl
theorem kw_eq {σ s : qx_S} {a k : Nat} {v : Option Nat} (e : s = qx_wr σ a k v) : qx_mr s a k = v := by rw [e]; exact qw_req
theorem kw_ne {σ s : qx_S} {a k b j : Nat} {v : Option Nat} (e : s = qx_wr σ a k v) (h : b ≠ a ∨ j ≠ k) : qx_mr s b j = qx_mr σ b j := by rw [e]; exact qw_rne h
theorem kx_s {T : qx_T} {σ s : qx_S} {a k b : Nat} {v : Int32} (e : s = qx_wi σ a k v) : qx_sh T s b = qx_sh T σ b := kx_sh (by rw [e]; rfl)
theorem kx_r {σ s : qx_S} {a k b j : Nat} {v : Int32} (e : s = qx_wi σ a k v) : qx_mr s b j = qx_mr σ b j := by rw [e]; rfl
theorem kf_s {T : qx_T} {σ s : qx_S} {P : Nat → Nat → Bool} (f : qf P σ s) (a : Nat) : qx_sh T s a = qx_sh T σ a := kx_sh (by rw [f.2.2.1])
/-- what lies ahead of b stays -/
def qh (b : Nat) (σ s : qx_S) : Prop := σ.1 ≤ s.1 ∧ (∀ a, a < b → s.2.2.1 a = σ.2.2.1 a) ∧ ∀ a j, a < b → qx_mr s a j = qx_mr σ a j ∧ qx_mi s a j = qx_mi σ a j ∧ qx_ml s a j = qx_ml σ a j
theorem qh.rf {b : Nat} {σ : qx_S} : qh b σ σ := ⟨Nat.le_refl _, fun _ _ => rfl, fun _ _ _ => ⟨rfl, rfl, rfl⟩⟩
theorem qh.tr {a : Nat} {x y z : qx_S} (h : qh a x y) (k : qh a y z) : qh a x z :=
  ⟨Nat.le_trans h.1 k.1, fun c hc => (k.2.1 c hc).trans (h.2.1 c hc), fun c j hc => ⟨(k.2.2 c j hc).1.trans (h.2.2 c j hc).1, (k.2.2 c j hc).2.1.trans (h.2.2 c j hc).2.1, (k.2.2 c j hc).2.2.trans (h.2.2 c j hc).2.2⟩⟩
theorem qh.mn {a b : Nat} {x y : qx_S} (h : qh b x y) (hab : a ≤ b) : qh a x y := ⟨h.1, fun c hc => h.2.1 c (by omega), fun c j hc => h.2.2 c j (by omega)⟩
theorem qh.s {T : qx_T} {b a : Nat} {σ s : qx_S} (h : qh b σ s) (ha : a < b) : qx_sh T s a = qx_sh T σ a := kx_sh (h.2.1 a ha)
theorem qh.i {b a j : Nat} {σ s : qx_S} (h : qh b σ s) (ha : a < b) : qx_mi s a j = qx_mi σ a j := (h.2.2 a j ha).2.1
theorem qh.r {b a j : Nat} {σ s : qx_S} (h : qh b σ s) (ha : a < b) : qx_mr s a j = qx_mr σ a j := (h.2.2 a j ha).1
theorem qh.l {b a j : Nat} {σ s : qx_S} (h : qh b σ s) (ha : a < b) : qx_ml s a j = qx_ml σ a j := (h.2.2 a j ha).2.2
theorem qh.al {b : Nat} {σ0 σ s : qx_S} {q : Nat × Nat} {n : Nat} (h : qh b σ0 σ) (e : s = qx_al σ q n) (hb : b ≤ σ.1) : qh b σ0 s := by
  refine h.tr ⟨by rw [ka_1 e]; exact Nat.le_succ _, fun a ha => ka_d e (by omega), fun a j ha => ⟨ka_r e (by omega), ka_i e (by omega), ka_l e (by omega)⟩⟩
theorem qh.wr {b : Nat} {σ0 σ s : qx_S} {a k : Nat} {v : Option Nat} (h : qh b σ0 σ) (e : s = qx_wr σ a k v) (hb : b ≤ a) : qh b σ0 s :=
  h.tr ⟨by rw [e]; exact Nat.le_refl _, fun _ _ => by rw [e]; rfl, fun c j hc => ⟨kw_ne e (Or.inl (by omega)), kw_i e, kw_l e⟩⟩
theorem qh.wi {b : Nat} {σ0 σ s : qx_S} {a k : Nat} {v : Int32} (h : qh b σ0 σ) (e : s = qx_wi σ a k v) (hb : b ≤ a) : qh b σ0 s :=
  h.tr ⟨by rw [e]; exact Nat.le_refl _, fun _ _ => by rw [e]; rfl, fun c j hc => ⟨kx_r e, qn_ne e (Or.inl (by omega)), by rw [e]; rfl⟩⟩
theorem qh.fl {b x : Nat} {σ0 σ s : qx_S} (h : qh b σ0 σ) (f : ql [(x, none)] σ s) (hb : b ≤ x) : qh b σ0 s :=
  h.tr ⟨Nat.le_of_eq f.1.symm, fun _ _ => by rw [f.2.2.1], fun c j hc => ⟨f.r _ _, f.i _ _ (pL_ne (by simp; omega)), f.l _ _ (pL_ne (by simp; omega))⟩⟩
theorem qh.sl {b a ci : Nat} {σ0 σ : qx_S} (h : qh b σ0 σ) (hb : b ≤ a) : qh b σ0 (qz_s σ a ci) :=
  ⟨h.1, fun c hc => (va_up_ne σ.2.2.1 (8 + ci, 0) (show c ≠ a by omega)).trans (h.2.1 c hc), h.2.2⟩
/-- new cells are 0 -/
def kz (b : Nat) (l : List (Nat × Option Nat)) (s : qx_S) : Prop := ∀ a j, b ≤ a → a < s.1 → pL l a j = false → qx_mi s a j = nI 0
theorem kz.al {b : Nat} {l : List (Nat × Option Nat)} {σ s : qx_S} {q : Nat × Nat} {n : Nat} (h : kz b l σ) (e : s = qx_al σ q n) : kz b l s := fun a j h1 h2 h3 => by
  by_cases z : a = σ.1
  · exact ka_0 e z.symm
  · have := ka_1 e
    exact (ka_i e z).trans (h a j h1 (by omega) h3)
theorem kz.wr {b : Nat} {l : List (Nat × Option Nat)} {σ s : qx_S} {a k : Nat} {v : Option Nat} (h : kz b l σ) (e : s = qx_wr σ a k v) : kz b l s := fun a j h1 h2 h3 => (kw_i e).trans (h a j h1 (by rw [e] at h2; exact h2) h3)
theorem kz.wi {b : Nat} {l : List (Nat × Option Nat)} {σ s : qx_S} {x k : Nat} {v : Int32} (h : kz b l σ) (e : s = qx_wi σ x k v) (hv : v = nI 0 ∨ pL l x k = true) : kz b l s := fun a j h1 h2 h3 => by
  by_cases z : a = x ∧ j = k
  · rw [z.1, z.2] at h3 ⊢
    rcases hv with w | w
    · exact (qn_eq e).trans w
    · rw [w] at h3
      cases h3
  · exact (qn_ne e (by omega)).trans (h a j h1 (by rw [e] at h2; exact h2) h3)
theorem kz.fl {b x : Nat} {l : List (Nat × Option Nat)} {σ s : qx_S} (h : kz b l σ) (f : ql [(x, none)] σ s) (hl : ∀ j, pL l x j = true) : kz b l s := fun a j h1 h2 h3 => by
  by_cases z : a = x
  · rw [z, hl j] at h3
    cases h3
  · exact (f.i _ _ (pL_ne (by simp; omega))).trans (h a j h1 (by rw [f.1] at h2; exact h2) h3)
theorem kz.ca {b c : Nat} {l m : List (Nat × Option Nat)} {σ s : qx_S} (h : kz b l σ) (f : qh c σ s) (hc : c ≤ σ.1) (z : kz c m s) (hl : ∀ x j, c ≤ x → pL l x j = false → pL m x j = false) : kz b l s := fun a j h1 h2 h3 => by
  by_cases y : a < c
  · exact (f.i y).trans (h a j h1 (by omega) h3)
  · exact z a j (by omega) h2 (hl a j (by omega) h3)
theorem kz.sl {b a ci : Nat} {l : List (Nat × Option Nat)} {σ : qx_S} (h : kz b l σ) : kz b l (qz_s σ a ci) := h
theorem kz.new {σ s : qx_S} {q : Nat × Nat} {n b : Nat} (e : s = qx_al σ q n) (hb : σ.1 = b) : kz b [] s := fun a j h1 h2 _ => by
  have := ka_1 e
  exact ka_0 e (by omega)
theorem qz_b {T : qx_T} {σ : qx_S} {a ci : Nat} (hT : T a = none) : qx_sh T (qz_s σ a ci) a = (8 + ci, 0) := kx_n (va_up_self _ _ _) hT
/-! addresses -/
theorem ka_ne {n b x t : Nat} (h : n = b + t) (hx : x < t) : b + x ≠ n := by omega
theorem ka_ne0 {n b t : Nat} (h : n = b + t) (hx : 0 < t) : b ≠ n := by omega
theorem kb_ne {b x y : Nat} (h : x ≠ y) : b + x ≠ b + y := by omega
theorem kb_0n {b y : Nat} (h : 0 ≠ y) : b ≠ b + y := by omega
theorem kb_n0 {b x : Nat} (h : 0 ≠ x) : b + x ≠ b := by omega
theorem kb_le {n b t : Nat} (h : n = b + t) : b ≤ n := by omega
theorem ka_n1 {σ s : qx_S} {q : Nat × Nat} {n b t : Nat} (e : s = qx_al σ q n) (h : σ.1 = b + t) : s.1 = b + (t + 1) := by have := ka_1 e; omega
theorem ka_m1 {σ s : qx_S} {q : Nat × Nat} {n b t : Nat} (e : s = qx_al σ q n) (h : σ.2.1 = b + t) : s.2.1 = b + (t + n) := by have := ka_2 e; omega
theorem ka_neL {n a t : Nat} (h : n = t) (hx : a ≠ t) : a ≠ n := by omega
theorem ka_n1L {σ s : qx_S} {q : Nat × Nat} {n t : Nat} (e : s = qx_al σ q n) (h : σ.1 = t) : s.1 = t + 1 := by have := ka_1 e; omega
theorem kb_leL {n b t : Nat} (h : n = t) (hx : b ≤ t) : b ≤ n := by omega
theorem ka_lt {n a t N : Nat} (h : n = t) (ha : a < N) (hN : N ≤ t) : a ≠ n := by omega


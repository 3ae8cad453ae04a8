/-! ===== a value changed; the best place to split ===== -/
theorem s_nm1 {b : Nat} (hb : b < 2 ^ 31) : ¬ nI b = -1 := by
  intro h
  have h2 := nI_pos hb
  rw [h] at h2
  exact h2 (by decide)
def s_cv (σ : s_S) (k v : Nat) : s_S := s_upd σ (43 + k) v
def s_bk (σ : s_S) (k : Nat) : Nat := s_blk (s_len σ) (σ 0) k
/-- what a change does: 0 in the tail, 1 in place, 2 written anew -/
def s_oc (σ : s_S) (k v : Nat) : Nat := if s_bk σ k = σ 0 then 0 else if s_sz (s_blf (s_cv σ k v) (s_bk σ k)) (s_len σ (s_bk σ k)) (s_frm σ (s_bk σ k)) ≤ s_rom σ (s_bk σ k) then 1 else 2
def s_rp (σ : s_S) (k v : Nat) : s_S := if s_oc σ k v = 0 then s_cv σ k v else if s_oc σ k v = 1 then s_upd (s_cv σ k v) 5 (σ 5 + 1) else s_wa (s_cv σ k v) (s_bk σ k)
theorem s_bo_in {f : Nat → Nat} {x : Nat} : ∀ d k, s_sum f k ≤ x → (s_bo f x d k < k + d → s_sum f (s_bo f x d k) ≤ x ∧ x < s_sum f (s_bo f x d k) + f (s_bo f x d k)) ∧ (s_bo f x d k = k + d → s_sum f (k + d) ≤ x)
  | 0, k, h => by
    rw [s_bo]
    exact ⟨fun z => absurd z (Nat.lt_irrefl _), fun _ => h⟩
  | d + 1, k, h => by
    rw [s_bo]
    by_cases c : x < s_sum f (k + 1)
    · rw [if_pos c]
      exact ⟨fun _ => ⟨h, c⟩, fun z => by omega⟩
    · rw [if_neg c, show k + (d + 1) = k + 1 + d by omega]
      exact s_bo_in d (k + 1) (by omega)
theorem s_bk_le (σ : s_S) (k : Nat) : s_bk σ k ≤ σ 0 := by
  have := (s_bo_le (f := s_len σ) (x := k) (σ 0) 0).2
  unfold s_bk s_blk
  omega
theorem s_bk_in {σ : s_S} {k : Nat} (h : s_bk σ k < σ 0) : s_sum (s_len σ) (s_bk σ k) ≤ k ∧ k < s_sum (s_len σ) (s_bk σ k) + s_len σ (s_bk σ k) := (s_bo_in (f := s_len σ) (x := k) (σ 0) 0 (Nat.zero_le _)).1 (by rw [Nat.zero_add]; exact h)
theorem s_bk_tail {σ : s_S} {k : Nat} (h : s_bk σ k = σ 0) : s_sum (s_len σ) (σ 0) ≤ k := by
  have := (s_bo_in (f := s_len σ) (x := k) (σ 0) 0 (Nat.zero_le _)).2 (by rw [Nat.zero_add]; exact h)
  rwa [Nat.zero_add] at this
theorem s_cv_o {σ : s_S} {k v j : Nat} (h : j < 43) : s_cv σ k v j = σ j := s_upd_n (by omega)
theorem s_cv_len {σ : s_S} {k v b : Nat} (h : b < 12) : s_len (s_cv σ k v) b = s_len σ b := s_cv_o (by omega)
theorem s_cv_val (σ : s_S) (k v j : Nat) : s_val (s_cv σ k v) j = if j = k then v else s_val σ j := by
  unfold s_val s_cv
  by_cases h : j = k
  · rw [if_pos h, h, s_upd_s]
  · rw [if_neg h, s_upd_n (by omega)]
theorem s_cv_sum {σ : s_S} {k v b : Nat} (h : b ≤ 12) : s_sum (s_len (s_cv σ k v)) b = s_sum (s_len σ) b := s_sum_congr _ (fun i hi => s_cv_len (by omega))
theorem s_cv_tot {σ : s_S} {k v : Nat} (h : σ 0 ≤ 12) : s_tot (s_cv σ k v) = s_tot σ := by
  show s_sum (s_len (s_cv σ k v)) (s_cv σ k v 0) + s_cv σ k v 1 = s_sum (s_len σ) (σ 0) + σ 1
  rw [s_cv_o (by decide), s_cv_o (by decide), s_cv_sum h]
theorem s_cv_blf {σ : s_S} {k v b : Nat} (h : b < 12) (i : Nat) : s_blf (s_cv σ k v) b i = if s_sum (s_len σ) b + i = k then v else s_blf σ b i := by
  unfold s_blf
  rw [s_cv_sum (by omega), s_cv_val]
theorem s_cv_ok {σ : s_S} {k v : Nat} (h : s_ok σ) (hv : v ≤ 999) : s_ok (s_cv σ k v) := by
  obtain ⟨k0, k1, k3, k4, k5⟩ := h
  unfold s_ok
  rw [s_cv_tot k0, s_cv_o (j := 0) (by decide), s_cv_o (j := 1) (by decide), s_cv_o (j := 2) (by decide), s_cv_o (j := 3) (by decide), s_cv_o (j := 4) (by decide)]
  refine ⟨k0, k1, fun b hb => ?_, fun j hj => ?_, k5⟩
  · unfold s_len s_frm s_rom
    rw [s_cv_o (by omega), s_cv_o (by omega), s_cv_o (by omega)]
    exact k3 b hb
  · rw [s_cv_val]
    split
    · exact hv
    · exact k4 j hj
theorem s_oke_of {σ : s_S} (E : Nat → Prop) (h : s_ok σ) : s_oke σ E := ⟨h.1, h.2.1, fun b hb => ⟨(h.2.2.1 b hb).1, (h.2.2.1 b hb).2.1⟩, fun b hb _ => (h.2.2.1 b hb).2.2, h.2.2.2⟩
theorem RepCe_of {m : ml_M} {p : Nat} {σ : s_S} (E : Nat → Prop) (h : RepC m p σ) : RepCe m p σ E := by
  obtain ⟨g5, g6, g7, g8, g1, g2, g3, g4, gs⟩ := h
  exact ⟨g5, g6, g7, g8, g1, g2, fun b hb _ => g3 b hb, fun b hb _ => g4 b hb, gs⟩
theorem s_wa_okk {σ : s_S} {b : Nat} (h : s_ok σ) (hb : b < σ 0) : s_ok (s_wa σ b) := (s_oke_0 (fun c z => z.1)).mp (s_wa_ok (s_oke_of (fun _ => False) h) hb)
theorem s_in_ok {σ : s_S} {x : Nat} (h : s_ok σ) : s_ok (s_upd σ 5 x) := by
  have e : ∀ k, k ≠ 5 → s_upd σ 5 x k = σ k := fun k hk => s_upd_n hk
  have el : s_len (s_upd σ 5 x) = s_len σ := by
    funext b
    exact e _ (by omega)
  have et : s_tot (s_upd σ 5 x) = s_tot σ := by
    show s_sum (s_len (s_upd σ 5 x)) (s_upd σ 5 x 0) + s_upd σ 5 x 1 = _
    rw [el, e 0 (by decide), e 1 (by decide)]
    rfl
  unfold s_ok s_frm s_rom s_val
  rw [et, el, e 0 (by decide), e 1 (by decide), e 2 (by decide), e 3 (by decide), e 4 (by decide)]
  obtain ⟨k0, k1, k3, k4, k5⟩ := h
  refine ⟨k0, k1, fun b hb => ?_, fun j hj => ?_, k5⟩
  · rw [e _ (by omega), e _ (by omega)]
    exact k3 b hb
  · rw [e _ (by omega)]
    exact k4 j hj
theorem s_oc_lt (σ : s_S) (k v : Nat) : s_oc σ k v < 3 := by
  unfold s_oc
  split
  · decide
  · split <;> decide
theorem s_rp_ok {σ : s_S} {k v : Nat} (h : s_ok σ) (hv : v ≤ 999) : s_ok (s_rp σ k v) := by
  have hl := s_bk_le σ k
  unfold s_rp
  split
  · exact s_cv_ok h hv
  · rename_i h0
    split
    · exact s_in_ok (s_cv_ok h hv)
    · refine s_wa_okk (s_cv_ok h hv) ?_
      rw [s_cv_o (by decide)]
      have : s_bk σ k ≠ σ 0 := fun z => h0 (by unfold s_oc; rw [if_pos z])
      omega
/-- the values of a block in the trial row -/
def s_tr (m : ml_M) (st k : Nat) : ml_M := fun a j => if a = 71 ∧ j < k then m 3 (st + j) else m a j
theorem s_tr_0 (m : ml_M) (st : Nat) : s_tr m st 0 = m := by
  funext a j
  exact if_neg (fun z => by omega)
theorem s_tr_n {m : ml_M} {st k a : Nat} (h : a ≠ 71) : s_tr m st k a = m a := by
  funext j
  exact if_neg (fun z => h z.1)
theorem s_tr_s (m : ml_M) (st k : Nat) : ml_s (s_tr m st k) 71 k (m 3 (st + k)) = s_tr m st (k + 1) := by
  funext a j
  by_cases ha : a = 71
  · subst ha
    by_cases hj : j = k
    · subst hj
      have e : s_tr m st (j + 1) 71 j = m 3 (st + j) := if_pos ⟨rfl, by omega⟩
      rw [ml_s_s, e]
    · rw [ml_s_k hj]
      unfold s_tr
      by_cases hc : j < k
      · rw [if_pos ⟨rfl, hc⟩, if_pos ⟨rfl, by omega⟩]
      · rw [if_neg (fun z => hc z.2), if_neg (fun z => by omega)]
  · rw [ml_s_a ha, s_tr_n ha, s_tr_n ha]
/-- the best place of the first n, for the rooms z; 0: none -/
def s_bp (z : Nat → Nat) : Nat → Nat
  | 0 => 0
  | n + 1 => if s_bp z n = 0 ∨ z (n + 1) < z (s_bp z n) then n + 1 else s_bp z n
def s_m1 (q : Nat) : Int32 := if q = 0 then -1 else nI q
/-- both rooms together -/
def s_rr (sa al : Nat) (f : Nat → Nat) (n p : Nat) : Nat := s_sz f p (s_pk sa al f p) + s_sz (fun i => f (p + i)) (n - p) (s_pk sa al (fun i => f (p + i)) (n - p))
theorem s_bp_le (z : Nat → Nat) : ∀ n, s_bp z n ≤ n
  | 0 => Nat.le_refl _
  | n + 1 => by
    have := s_bp_le z n
    rw [s_bp]
    split <;> omega
theorem s_rr_le {sa al n p : Nat} {f : Nat → Nat} (hn : n ≤ 16) (h0 : 0 < p) (hp : p < n) (hb : ∀ i, i < n → f i ≤ 999) : s_rr sa al f n p ≤ 2000 := by
  have h1 := s_sz_le (f := f) (n := p) (fo := s_pk sa al f p) (by omega) h0 (fun i hi => hb i (by omega))
  have h2 := s_sz_le (f := fun i => f (p + i)) (n := n - p) (fo := s_pk sa al (fun i => f (p + i)) (n - p)) (by omega) (by omega) (fun i hi => hb (p + i) (by omega))
  unfold s_rr
  omega
section SPJ
variable {Ln : Nat} {xs : Nat → Int32} {u : mj_U} {m : ml_M} {lm : ml_J} {Φ : mj_R → mj_W → Prop} {σ : s_S} {v k b n st : Nat} {x y : Int32}
theorem sp101_l {x1 x2 x3 : Int32} (hn : n ≤ 16) (hs : st + n ≤ 207) : ∀ d k, k + d = n → wp Ln xs 101 39 [.ref 1, .int x1, .int x2, .int x3, .int (nI st), .int (nI n), .int (nI k)] [] (u, ml_h (s_tr m st k) lm) Φ = wp Ln xs 101 76 [.ref 1, .int x1, .int x2, .int x3, .int (nI st), .int (nI n), .int (nI n)] [] (u, ml_h (s_tr m st n) lm) Φ
  | 0, k, h => by
    obtain rfl : k = n := by omega
    rw [x101_39, if_pos (nI_le (Nat.le_refl _) (by omega))]
  | d + 1, k, h => by
    rw [x101_39, if_neg (nI_ge (by omega) (by omega)), x101_46, nI_add, at_3 (by omega), mk_v, x101_67, put_71 (by omega), mk_n, x101_70, nI_add, s_tr_n (by decide), s_tr_s]
    exact sp101_l hn hs d (k + 1) (by omega)
theorem sp101 (h0 : s_ok σ) (h : RepC m 2 σ) (hk : k < s_tot σ) (hv : v ≤ 999) : ∃ m', (s_bk σ k < σ 0 → ∀ i, i < s_len σ (s_bk σ k) → m' 71 i = nI (s_blf (s_cv σ k v) (s_bk σ k) i)) ∧ (∀ a, a ≠ 56 → a ≠ 57 → a ≠ 71 → m' a = m a) ∧ ∀ Φ : mj_R → mj_W → Prop, wp Ln xs 101 0 [.ref 1, .int (nI k), .int (nI v), mj_hole, mj_hole, mj_hole, mj_hole] [] (u, ml_h m lm) Φ = Φ (.inl (some (.int (nI (s_oc σ k v))))) (u, ml_h m' lm) := by
  have hT := s_tot_le h0
  have hle := s_bk_le σ k
  have hok := s_cv_ok (k := k) (v := v) h0 hv
  obtain ⟨g5, g6, g7, g8, g1, g2, g3, g4, gs⟩ := h
  have k0 := h0.1
  have e44 : ∀ Φ : mj_R → mj_W → Prop, wp Ln xs 75 0 [.ref 2, .int (nI k), mj_hole, mj_hole] [] (u, ml_h m lm) Φ = Φ (.inl (some (.int (if s_bk σ k = σ 0 then -1 else nI (s_bk σ k))))) (u, ml_h m lm) := fun Φ => sp75 (f := s_len σ) k0 g6 g2 (by have := s_sum_tot σ; omega) (by omega)
  by_cases c : s_bk σ k = σ 0
  · refine ⟨m, fun z => by omega, fun _ _ _ _ => rfl, fun Φ => ?_⟩
    rw [x101_0, e44, if_pos c, mk_v, x101_8, if_neg (fun z => z rfl), x101_14]
    unfold s_oc
    rw [if_pos c]
  · have hb : s_bk σ k < σ 0 := by omega
    obtain ⟨i1, i2⟩ := s_bk_in hb
    have hend := s_end_le hb
    generalize hB : s_bk σ k = B at *
    have ⟨l1, l2, l3, l4⟩ := h0.2.2.1 B hb
    have hrow : ∀ i, i < s_len σ B → ml_s (s_tr m (s_sum (s_len σ) B) (s_len σ B)) 71 (k - s_sum (s_len σ) B) (nI v) 71 (0 + i) = nI (s_blf (s_cv σ k v) B i) := fun i hi => by
      rw [Nat.zero_add, s_cv_blf (by omega)]
      by_cases hc : s_sum (s_len σ) B + i = k
      · rw [if_pos hc, show i = k - s_sum (s_len σ) B by omega, ml_s_s]
      · rw [if_neg hc, ml_s_k (by omega)]
        unfold s_tr
        rw [if_pos ⟨rfl, hi⟩]
        exact g1 _ (by omega)
    have hbl := s_blf_le (s_oke_of (fun _ => False) hok) (b := B) (by rw [s_cv_o (by decide)]; exact hb)
    rw [s_cv_len (by omega)] at hbl
    obtain ⟨m1, r1, fr, e1⟩ := sp41 (Ln := Ln) (xs := xs) (u := u) (lm := lm) (p := 56) (r := 71) (s := 0) (n := s_len σ B) (f := s_blf (s_cv σ k v) B) ml_sh_56 ml_ia_71 (by decide) (by decide) (by decide) l2 (by rw [ml_n_71]; omega) hbl hrow
    have f5 : m1 5 = m 5 := by rw [fr 5 (by decide) (by decide), ml_s_row (by decide), s_tr_n (by decide)]
    have f6 : m1 6 = m 6 := by rw [fr 6 (by decide) (by decide), ml_s_row (by decide), s_tr_n (by decide)]
    refine ⟨m1, fun _ i hi => ?_, fun a h1 h2 h3 => ?_, fun Φ => ?_⟩
    · rw [fr 71 (by decide) (by decide)]
      have := hrow i hi
      rwa [Nat.zero_add] at this
    · rw [fr a h1 h2, ml_s_row h3, s_tr_n h3]
    · have hl := sp101_l (Ln := Ln) (xs := xs) (u := u) (m := m) (lm := lm) (Φ := Φ) (x1 := nI k) (x2 := nI v) (x3 := nI B) (n := s_len σ B) (st := s_sum (s_len σ) B) l2 (by omega) (s_len σ B) 0 (by omega)
      rw [s_tr_0] at hl
      rw [x101_0, e44, if_neg c, mk_v, x101_8, if_pos (s_nm1 (by omega)), x101_16, sp19 (f := s_len σ) (by omega) (fun i hi => g2 i (by omega)), mk_v, x101_24, sp20 (by omega), mk_v, g2 B hb, x101_34, hl, x101_76, pk_sub i1, put_71 (by omega), mk_n, x101_88, e1, mk_n, x101_102, sp42 (by omega), mk_v, f5, g3 B hb, x101_114, sp27 ml_sh_56 r1 (by omega) l2 hbl l3, mk_v, x101_117, sp16 (by omega), mk_v, f6, g4 B hb, x101_125]
      have hz := s_sz_le (fo := s_frm σ B) l2 (by omega) hbl
      unfold s_oc
      rw [hB, if_neg c]
      by_cases hc : s_sz (s_blf (s_cv σ k v) B) (s_len σ B) (s_frm σ B) ≤ s_rom σ B
      · rw [if_pos hc, if_neg (nI_nlt hc (by omega)), x101_128]
      · rw [if_neg hc, if_pos (nI_lt (by omega) (by omega)), x101_132]
theorem sp102 {f : Nat → Nat} (h0 : s_ok σ) (h : RepC m 2 σ) (hb : b < σ 0) (hf : ∀ i, i < s_len σ b → m 71 i = nI (f i)) (hv : ∀ i, i < s_len σ b → f i ≤ 999) : ∃ m', (∀ a, a < 58 ∨ 60 < a → m' a = m a) ∧ ∀ Φ : mj_R → mj_W → Prop, wp Ln xs 102 0 [.ref 1, .int (nI b)] [] (u, ml_h m lm) Φ = Φ (.inl (some (.int (nI (s_sz f (s_len σ b) (s_pk (σ 2) (σ 4) f (s_len σ b))) - nI (s_rom σ b))))) (u, ml_h m' lm) := by
  obtain ⟨g5, g6, g7, g8, g1, g2, g3, g4, gs⟩ := h
  obtain ⟨k0, k1, k3, k4, k5, k6, k7, k8, k9, k10⟩ := h0
  have ⟨l1, l2, l3, l4⟩ := k3 b hb
  obtain ⟨m1, ⟨f1, f2⟩, fr, e⟩ := sp21 (Ln := Ln) (xs := xs) (u := u) (lm := lm) (m := m) (n := s_len σ b) (f := f) (r := 71) (s := 0) (sa := σ 2) (al := σ 4) ml_ia_71 (by decide) (Or.inr (by decide)) (by omega) l2 (by rw [ml_n_71]; omega) hv (fun i hi => by rw [Nat.zero_add]; exact hf i hi) (gs 0 (by decide)) (by omega) (by omega) (gs 2 (by decide)) (by omega)
  refine ⟨m1, fr, fun Φ => ?_⟩
  rw [x102_0, sp20 (by omega), mk_v, g2 b hb, x102_17, e, mk_n, x102_27, sp16 (by omega), mk_v, fr 6 (by omega), g4 b hb, x102_42, f2]
theorem sp78_l {row3 row7 : Nat → Int32} {f : Nat → Nat} {sa al : Nat} {x1 : Int32} (hn : n ≤ 16) (hs : st + n ≤ 207) (hf : ∀ i, i < n → row3 (st + i) = nI (f i)) (hv : ∀ i, i < n → f i ≤ 999) (h70 : row7 0 = nI sa) (hsa0 : 0 < sa) (hsa : sa < 2 ^ 31) (h72 : row7 2 = nI al) (hal : al < 2 ^ 31) : ∀ (d q : Nat) (m : ml_M) (v7 : Value), q + 1 + d = n → m 3 = row3 → m 7 = row7 → ∃ m', (∀ a, a < 58 ∨ 60 < a → m' a = m a) ∧ ∀ Φ : mj_R → mj_W → Prop, wp Ln xs 78 27 [.ref 1, .int x1, .int (nI st), .int (nI n), .int (s_m1 (s_bp (s_rr sa al f n) q)), .int (if s_bp (s_rr sa al f n) q = 0 then nI 0 else nI (s_rr sa al f n (s_bp (s_rr sa al f n) q))), .int (nI (q + 1)), v7] [] (u, ml_h m lm) Φ = Φ (.inl (some (.int (s_m1 (s_bp (s_rr sa al f n) (n - 1)))))) (u, ml_h m' lm)
  | 0, q, m, v7, h, h3, h7 => by
    obtain rfl : n = q + 1 := by omega
    refine ⟨m, fun _ _ => rfl, fun Φ => ?_⟩
    rw [x78_27, if_pos (nI_le (Nat.le_refl _) (by omega)), x78_134, Nat.add_sub_cancel]
  | d + 1, q, m, v7, h, h3, h7 => by
    obtain ⟨m1, ⟨a1, a2⟩, fr1, e1⟩ := sp21 (Ln := Ln) (xs := xs) (u := u) (lm := lm) (m := m) (n := q + 1) (f := f) (r := 3) (s := st) (sa := sa) (al := al) ml_ia_3 (by decide) (Or.inl (by decide)) (by omega) (by omega) (by rw [ml_n_3]; omega) (fun i hi => hv i (by omega)) (fun i hi => by rw [h3]; exact hf i (by omega)) (by rw [h7]; exact h70) hsa0 hsa (by rw [h7]; exact h72) hal
    obtain ⟨m2, ⟨b1, b2⟩, fr2, e2⟩ := sp21 (Ln := Ln) (xs := xs) (u := u) (lm := lm) (m := m1) (n := n - (q + 1)) (f := fun i => f (q + 1 + i)) (r := 3) (s := st + (q + 1)) (sa := sa) (al := al) ml_ia_3 (by decide) (Or.inl (by decide)) (by omega) (by omega) (by rw [ml_n_3]; omega) (fun i hi => hv (q + 1 + i) (by omega)) (fun i hi => by rw [fr1 3 (by decide), h3, Nat.add_assoc]; exact hf (q + 1 + i) (by omega)) (by rw [fr1 7 (by decide), h7]; exact h70) hsa0 hsa (by rw [fr1 7 (by decide), h7]; exact h72) hal
    obtain ⟨m3, fr3, e3⟩ := sp78_l (x1 := x1) hn hs hf hv h70 hsa0 hsa h72 hal d (q + 1) m2 (.int (nI (s_rr sa al f n (q + 1)))) (by omega) (by rw [fr2 3 (by decide), fr1 3 (by decide), h3]) (by rw [fr2 7 (by decide), fr1 7 (by decide), h7])
    refine ⟨m3, fun a ha => by rw [fr3 a ha, fr2 a ha, fr1 a ha], fun Φ => ?_⟩
    have hz := s_rr_le (sa := sa) (al := al) (f := f) (p := q + 1) hn (by omega) (by omega) hv
    have er : nI (s_sz f (q + 1) (s_pk sa al f (q + 1))) + nI (s_sz (fun i => f (q + 1 + i)) (n - (q + 1)) (s_pk sa al (fun i => f (q + 1 + i)) (n - (q + 1)))) = nI (s_rr sa al f n (q + 1)) := nI_add _ _
    have hq := s_bp_le (s_rr sa al f n) q
    rw [x78_27, if_neg (nI_ge (by omega) (by omega)), x78_33, e1, mk_n, x78_57, nI_add, pk_sub (by omega), e2, mk_n, x78_95, a2, b2, er]
    have e3' := e3 Φ
    rw [s_bp] at e3'
    by_cases c : s_bp (s_rr sa al f n) q = 0
    · rw [c] at e3' ⊢
      rw [if_pos (Or.inl rfl)] at e3'
      rw [if_pos (show s_m1 0 = -1 from rfl), x78_120, x78_128, nI_add]
      rw [if_neg (by omega)] at e3'
      unfold s_m1 at e3' ⊢
      rw [if_neg (by omega)] at e3'
      exact e3'
    · have hz2 := s_rr_le (sa := sa) (al := al) (f := f) (p := s_bp (s_rr sa al f n) q) hn (by omega) (by omega) hv
      have em : s_m1 (s_bp (s_rr sa al f n) q) = nI (s_bp (s_rr sa al f n) q) := if_neg c
      rw [em, if_neg (s_nm1 (by omega)), x78_113, if_neg c]
      by_cases c2 : s_rr sa al f n (q + 1) < s_rr sa al f n (s_bp (s_rr sa al f n) q)
      · rw [if_pos (Or.inr c2), if_neg (by omega)] at e3'
        rw [if_neg (nI_ge c2 (by omega)), x78_120, x78_128, nI_add]
        unfold s_m1 at e3' ⊢
        rw [if_neg (by omega)] at e3'
        exact e3'
      · rw [if_neg (fun z => z.elim c c2), if_neg c, em] at e3'
        rw [if_pos (nI_le (by omega) (by omega)), x78_128, nI_add]
        exact e3'
/-- the best place to split a block -/
def s_bs (σ : s_S) (b : Nat) : Nat := s_bp (s_rr (σ 2) (σ 4) (s_blf σ b) (s_len σ b)) (s_len σ b - 1)
theorem sp78 (h0 : s_ok σ) (h : RepC m 2 σ) (hb : b < σ 0) : ∃ m', (∀ a, a < 58 ∨ 60 < a → m' a = m a) ∧ ∀ Φ : mj_R → mj_W → Prop, wp Ln xs 78 0 [.ref 1, .int (nI b), mj_hole, mj_hole, mj_hole, mj_hole, mj_hole, mj_hole] [] (u, ml_h m lm) Φ = Φ (.inl (some (.int (s_m1 (s_bs σ b))))) (u, ml_h m' lm) := by
  have hv := s_blf_le (s_oke_of (fun _ => False) h0) hb
  have hend := s_end_le hb
  have hT := s_tot_le h0
  obtain ⟨g5, g6, g7, g8, g1, g2, g3, g4, gs⟩ := h
  obtain ⟨k0, k1, k3, k4, k5, k6, k7, k8, k9, k10⟩ := h0
  have ⟨l1, l2, l3, l4⟩ := k3 b hb
  obtain ⟨m1, fr, e⟩ := sp78_l (Ln := Ln) (xs := xs) (u := u) (lm := lm) (x1 := nI b) (row3 := m 3) (row7 := m 7) (f := s_blf σ b) (sa := σ 2) (al := σ 4) (st := s_sum (s_len σ) b) l2 (by omega) (fun i hi => g1 _ (by omega)) hv (gs 0 (by decide)) (by omega) (by omega) (gs 2 (by decide)) (by omega) (s_len σ b - 1) 0 m mj_hole (by omega) rfl rfl
  refine ⟨m1, fr, fun Φ => ?_⟩
  have e9 := e Φ
  rw [x78_0, sp19 (f := s_len σ) (by omega) (fun i hi => g2 i (by omega)), mk_v, x78_8, sp20 (by omega), mk_v, g2 b hb, x78_17]
  exact e9
end SPJ

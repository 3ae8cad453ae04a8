/-! ===== p31, pure: what holds of each block ===== -/
theorem q_lo_c {f g : Nat → Nat} (h0 : f 0 = g 0) : ∀ n, (∀ i, i < n → f i = g i) → s_lo f n = s_lo g n
  | 0, _ => h0
  | n + 1, h => by rw [s_lo, s_lo, q_lo_c h0 n (fun i hi => h i (by omega)), h n (by omega)]
theorem q_hi_c {f g : Nat → Nat} (h0 : f 0 = g 0) : ∀ n, (∀ i, i < n → f i = g i) → s_hi f n = s_hi g n
  | 0, _ => h0
  | n + 1, h => by rw [s_hi, s_hi, q_hi_c h0 n (fun i hi => h i (by omega)), h n (by omega)]
theorem q_rn_c {f g : Nat → Nat} : ∀ n, (∀ i, i < n → f i = g i) → s_rn f n = s_rn g n
  | 0, _ => rfl
  | n + 1, h => by
    rw [s_rn, s_rn, q_rn_c n (fun i hi => h i (by omega)), h n (by omega)]
    by_cases c : n = 0
    · rw [if_pos c, if_pos c]
    · rw [h (n - 1) (by omega)]
theorem q_ts_c {f g : Nat → Nat} : ∀ n, (∀ i, i < n → f i = g i) → s_ts f n = s_ts g n
  | 0, _ => rfl
  | n + 1, h => by
    rw [s_ts, s_ts, q_ts_c n (fun i hi => h i (by omega)), h n (by omega)]
    by_cases c : n = 0
    · rw [if_pos c, if_pos c]
    · rw [h (n - 1) (by omega)]
theorem q_in_c {f g : Nat → Nat} {x : Nat} : ∀ n, (∀ i, i < n → f i = g i) → s_in f x n = s_in g x n
  | 0, _ => rfl
  | n + 1, h => by rw [s_in, s_in, q_in_c n (fun i hi => h i (by omega)), h n (by omega)]
theorem q_un_c {f g : Nat → Nat} : ∀ n, (∀ i, i < n → f i = g i) → s_un f n = s_un g n
  | 0, _ => rfl
  | n + 1, h => by rw [s_un, s_un, q_un_c n (fun i hi => h i (by omega)), h n (by omega), q_in_c n (fun i hi => h i (by omega))]
theorem q_sz_c {f g : Nat → Nat} {n fo : Nat} (h0 : 0 < n) (h : ∀ i, i < n → f i = g i) : s_sz f n fo = s_sz g n fo := by
  unfold s_sz
  rw [q_lo_c (h 0 h0) n h, q_hi_c (h 0 h0) n h, q_rn_c n h, q_ts_c n h, q_un_c n h]
theorem q_li_c {al : Nat} {z y : Nat → Nat} (h : ∀ k, z k = y k) : ∀ K, s_li al z K = s_li al y K
  | 0 => rfl
  | K + 1 => by rw [s_li, s_li, q_li_c h K, h (K + 1), h (s_li al y K)]
theorem q_pk_c {sa al n : Nat} {f g : Nat → Nat} (h0 : 0 < n) (hs : 0 < sa) (h : ∀ i, i < n → f i = g i) : s_pk sa al f n = s_pk sa al g n := by
  unfold s_pk
  have e : ∀ k, s_sz f (if n < sa then n else sa) k = s_sz g (if n < sa then n else sa) k := fun k => by
    refine q_sz_c ?_ (fun i hi => h i ?_)
    · split <;> omega
    · split at hi <;> omega
  exact q_li_c e 4
/-- the bits of each block are at most its room; but for the blocks in E -/
def q_J (σ : s_S) (E : Nat → Prop) : Prop := ∀ c, c < σ 0 → ¬ E c → s_ub σ c ≤ s_rom σ c
def q_n : Nat → Prop := fun _ => False
/-- a block as it is picked, with no rest -/
def q_An (σ : s_S) (b : Nat) : Prop := s_pkb σ b = s_frm σ b ∧ s_ub σ b = s_rom σ b
/-- block c of σ' is block b of σ -/
def q_eq (σ' σ : s_S) (c b : Nat) : Prop := s_len σ' c = s_len σ b ∧ s_frm σ' c = s_frm σ b ∧ s_rom σ' c = s_rom σ b ∧ ∀ i, i < s_len σ b → s_blf σ' c i = s_blf σ b i
theorem q_eq_ub {σ' σ : s_S} {c b : Nat} (h : q_eq σ' σ c b) (h0 : 0 < s_len σ b) : s_ub σ' c = s_ub σ b := by
  obtain ⟨h1, h2, h3, h4⟩ := h
  unfold s_ub
  rw [h1, h2]
  exact q_sz_c h0 h4
theorem q_eq_J {σ' σ : s_S} {c b : Nat} (h : q_eq σ' σ c b) (h0 : 0 < s_len σ b) (hj : s_ub σ b ≤ s_rom σ b) : s_ub σ' c ≤ s_rom σ' c := by
  rw [q_eq_ub h h0, h.2.2.1]
  exact hj
theorem q_eq_An {σ' σ : s_S} {c b : Nat} (h : q_eq σ' σ c b) (h0 : 0 < s_len σ b) (e2 : σ' 2 = σ 2) (e4 : σ' 4 = σ 4) (hs : 0 < σ 2) (hj : q_An σ b) : q_An σ' c := by
  refine ⟨?_, ?_⟩
  · rw [h.2.1, ← hj.1]
    unfold s_pkb
    rw [e2, e4, h.1]
    exact q_pk_c h0 hs h.2.2.2
  · rw [q_eq_ub h h0, h.2.2.1]
    exact hj.2
section QWA
variable {σ : s_S} {b c : Nat} {E : Nat → Prop}
theorem q_wa_sum (hb : b < 12) {d : Nat} (hd : d ≤ 12) : s_sum (s_len (s_wa σ b)) d = s_sum (s_len σ) d := s_sum_congr _ (fun i hi => s_wa_len hb (by omega))
theorem q_wa_blf (hb : b < 12) (hc : c < 12) : s_blf (s_wa σ b) c = s_blf σ c := by
  funext i
  unfold s_blf
  rw [q_wa_sum hb (by omega), s_wa_val hb]
theorem q_wa_eq (hb : b < 12) (hc : c < 12) (h : c ≠ b) : q_eq (s_wa σ b) σ c c := by
  refine ⟨s_wa_len hb hc, ?_, ?_, fun i _ => by rw [q_wa_blf hb hc]⟩
  · rw [s_wa_frm hb hc, if_neg h]
  · rw [s_wa_rom hb hc, if_neg h]
theorem q_wa_An (hb : b < 12) : q_An (s_wa σ b) b := by
  refine ⟨?_, ?_⟩
  · rw [s_wa_frm hb hb, if_pos rfl]
    unfold s_pkb
    rw [q_wa_blf hb hb, s_wa_len hb hb, s_wa_o (by omega) (by omega) (by omega), s_wa_o (by omega) (by omega) (by omega)]
  · unfold s_ub
    rw [s_wa_rom hb hb, if_pos rfl, q_wa_blf hb hb, s_wa_len hb hb, s_wa_frm hb hb, if_pos rfl]
theorem q_wa_J (h0 : σ 0 ≤ 12) (hl : ∀ c, c < σ 0 → 1 ≤ s_len σ c) (hb : b < 12) (h : q_J σ E) : q_J (s_wa σ b) (fun c => E c ∧ c ≠ b) := fun c hc hE => by
  rw [s_wa_o (by omega) (by omega) (by omega)] at hc
  by_cases e : c = b
  · subst e
    exact Nat.le_of_eq (q_wa_An (by omega)).2
  · exact q_eq_J (q_wa_eq hb (by omega) e) (hl c hc) (h c hc (fun z => hE ⟨z, e⟩))
theorem q_J_n (h : q_J σ E) (he : ∀ c, ¬ E c) : q_J σ q_n := fun c hc _ => h c hc (he c)
theorem q_J_of (h : q_J σ q_n) : q_J σ E := fun c hc _ => h c hc (fun z => z)
end QWA
/-! the states that the calls make -/
section QST
variable {σ : s_S} {b c k v p : Nat}
theorem q_okl (h0 : s_ok σ) : ∀ c, c < σ 0 → 1 ≤ s_len σ c := fun c hc => (h0.2.2.1 c hc).1
/-- all that tells of a block stands below 43, its values behind -/
theorem q_eq_of {σ' : s_S} (h1 : ∀ d, d ≤ c → s_len σ' d = s_len σ d) (h2 : s_frm σ' c = s_frm σ c) (h3 : s_rom σ' c = s_rom σ c) (h4 : ∀ i, s_sum (s_len σ) c ≤ i → i < s_sum (s_len σ) c + s_len σ c → s_val σ' i = s_val σ i) : q_eq σ' σ c c := by
  refine ⟨h1 c (Nat.le_refl _), h2, h3, fun i hi => ?_⟩
  have e : s_sum (s_len σ') c = s_sum (s_len σ) c := s_sum_congr _ (fun d hd => h1 d (by omega))
  unfold s_blf
  rw [e]
  exact h4 _ (Nat.le_add_right _ _) (by omega)
theorem q_wa_J0 (h0 : s_ok σ) (hb : b < σ 0) (h : q_J σ q_n) : q_J (s_wa σ b) q_n := q_J_n (q_wa_J h0.1 (q_okl h0) (by have := h0.1; omega) h) (fun c z => z.1)
theorem q_pt_J (h0 : s_ok σ) (h : q_J σ q_n) : q_J (s_pt σ v) q_n := fun c hc _ => by
  have k0 := h0.1
  rw [s_pt_o (by decide) (by decide)] at hc
  have hend := s_end_le hc
  exact q_eq_J (q_eq_of (fun d hd => s_pt_len (by omega)) (s_pt_o (by omega) (by omega)) (s_pt_o (by omega) (by omega)) (fun i h1 h2 => by rw [s_pt_val, if_neg (by omega)])) (q_okl h0 c hc) (h c hc (fun z => z))
theorem q_ct_J (h6 : s_ok6 σ) (h1 : 1 ≤ σ 1) (h12 : σ 0 < 12) (h : q_J σ q_n) : q_J (s_ct σ) q_n := by
  have o := s_ctp_ok h6 h1 h12
  have hp : q_J (s_ctp σ) (fun c => c = σ 0) := fun c hc hE => by
    have hE : ¬ c = σ 0 := hE
    rw [s_ctp_0] at hc
    refine q_eq_J (q_eq_of (fun d hd => by rw [s_ctp_len, if_neg (by omega)]) (s_ctp_o (by omega) (by omega) (by omega)) (s_ctp_o (by omega) (by omega) (by omega)) (fun i _ _ => s_ctp_o (by omega) (by omega) (by omega))) (h6.2.2.1 c (by omega)).1 (h c (by omega) (fun z => z))
  unfold s_ct
  exact q_J_n (q_wa_J o.1 (fun c hc => (o.2.2.1 c hc).1) h12 hp) (fun c z => z.2 z.1)
theorem q_put_J (h0 : s_ok σ) (hv : v ≤ 999) (hc : s_can σ) (h : q_J σ q_n) : q_J (s_put σ v) q_n := by
  unfold s_put
  by_cases c : σ 1 + 1 < σ 3
  · rw [if_pos c]
    exact q_pt_J h0 h
  · rw [if_neg c]
    exact q_ct_J (s_pt_ok h0 hv) (by rw [s_pt_1]; omega) (by rw [s_pt_o (by decide) (by decide)]; exact hc.resolve_right c) (q_pt_J h0 h)
theorem q_upd_J {j z : Nat} (hj : j = 2 ∨ j = 3 ∨ j = 4 ∨ j = 5) (h0 : s_ok σ) (h : q_J σ q_n) : q_J (s_upd σ j z) q_n := fun c hc _ => by
  rw [s_upd_n (by omega)] at hc
  exact q_eq_J (q_eq_of (fun d hd => s_upd_n (by omega)) (s_upd_n (by omega)) (s_upd_n (by omega)) (fun i _ _ => s_upd_n (by omega))) (q_okl h0 c hc) (h c hc (fun z => z))
/-- a value changed: but for its own block -/
theorem q_cv_J (h0 : s_ok σ) (h : q_J σ q_n) : q_J (s_cv σ k v) (fun c => c = s_bk σ k) := fun c hc hE => by
  have hE : ¬ c = s_bk σ k := hE
  have k0 := h0.1
  rw [s_cv_o (by decide)] at hc
  refine q_eq_J (q_eq_of (fun d hd => s_cv_len (by omega)) (s_cv_o (by omega)) (s_cv_o (by omega)) (fun i h1 h2 => ?_)) (q_okl h0 c hc) (h c hc (fun z => z))
  rw [s_cv_val, if_neg]
  intro e
  subst e
  apply hE
  have e := q_bk (σ := σ) (b := c) (i := i - s_sum (s_len σ) c) hc (by omega)
  rw [show s_sum (s_len σ) c + (i - s_sum (s_len σ) c) = i by omega] at e
  exact e.symm
theorem q_rp_J (h0 : s_ok σ) (hv : v ≤ 999) (h : q_J σ q_n) : q_J (s_rp σ k v) q_n := by
  have hl := s_bk_le σ k
  have k0 := h0.1
  have hcv := q_cv_J (k := k) (v := v) h0 h
  have o := s_cv_ok (k := k) h0 hv
  unfold s_rp
  by_cases c0 : s_oc σ k v = 0
  · rw [if_pos c0]
    refine fun c hc _ => hcv c hc (fun e => ?_)
    have e : c = s_bk σ k := e
    rw [s_cv_o (by decide)] at hc
    unfold s_oc at c0
    rw [if_neg (by omega)] at c0
    split at c0 <;> omega
  · rw [if_neg c0]
    by_cases c1 : s_oc σ k v = 1
    · rw [if_pos c1]
      refine q_upd_J (by omega) o (fun c hc _ => ?_)
      by_cases e : c = s_bk σ k
      · subst e
        rw [s_cv_o (by decide)] at hc
        unfold s_oc at c1
        rw [if_neg (by omega)] at c1
        split at c1
        · next hz =>
          unfold s_ub s_frm s_rom
          rw [s_cv_len (by omega), s_cv_o (by omega), s_cv_o (by omega)]
          exact hz
        · omega
      · exact hcv c hc e
    · rw [if_neg c1]
      have hb : s_bk σ k < σ 0 := by
        have : s_bk σ k ≠ σ 0 := fun z => c0 (by unfold s_oc; rw [if_pos z])
        omega
      exact q_J_n (q_wa_J o.1 (q_okl o) (by omega) hcv) (fun c z => z.2 z.1)
theorem q_jn_J (h0 : s_ok σ) (hb : b + 1 < σ 0) (hl : s_len σ b + s_len σ (b + 1) ≤ 16) (h : q_J σ q_n) : q_J (s_jn σ b) q_n := by
  have k0 := h0.1
  have o := s_jp_ok h0 hb hl
  have hp : q_J (s_jp σ b) (fun c => c = b) := fun c hc hE => by
    have hE : ¬ c = b := hE
    rw [s_jp_0] at hc
    by_cases c1 : c < b
    · refine q_eq_J (q_eq_of (fun d hd => (s_jp_lo k0 hb (by omega)).1) (s_jp_lo k0 hb c1).2.1 (s_jp_lo k0 hb c1).2.2 (fun i _ _ => s_jp_o k0 hb (by omega) (by omega))) (q_okl h0 c (by omega)) (h c (by omega) (fun z => z))
    · have g := s_jp_hi (c := c) k0 (show b < c by omega) (by omega)
      have e := s_sum_jn (f := s_len σ) (g := s_len (s_jp σ b)) (b := b) (fun i hi => (s_jp_lo k0 hb hi).1) (by show s_jp σ b (7 + b) = σ (7 + b) + σ (7 + (b + 1)); rw [s_jp_eq hb, Nat.add_comm]; rfl) (c - b - 1) (fun i h1 h2 => (s_jp_hi k0 h1 (by omega)).1)
      rw [show b + 1 + (c - b - 1) + 1 = c + 1 by omega, show b + 1 + (c - b - 1) = c by omega] at e
      refine q_eq_J (b := c + 1) (σ := σ) ⟨g.1, g.2.1, g.2.2, fun i _ => ?_⟩ (q_okl h0 _ (by omega)) (h _ (by omega) (fun z => z))
      unfold s_blf
      rw [e]
      exact s_jp_o k0 hb (by omega) (by omega)
  unfold s_jn
  exact q_J_n (q_wa_J o.1 (fun c hc => (o.2.2.1 c hc).1) (by omega) hp) (fun c z => z.2 z.1)
theorem q_spl_J (h0 : s_ok σ) (h12 : σ 0 < 12) (hb : b < σ 0) (h1 : 1 ≤ p) (hp : p < s_len σ b) (h : q_J σ q_n) : q_J (s_spl σ b p) q_n := by
  have o := s_spp_ok h0 h12 hb h1 hp
  have hq : q_J (s_spp σ b p) (fun c => c = b ∨ c = b + 1) := fun c hc hE => by
    have hE : ¬ (c = b ∨ c = b + 1) := hE
    rw [s_spp_0] at hc
    by_cases c1 : c < b
    · refine q_eq_J (q_eq_of (fun d hd => (s_spp_lo h12 hb (by omega)).1) (s_spp_lo h12 hb c1).2.1 (s_spp_lo h12 hb c1).2.2 (fun i _ _ => s_spp_o h12 hb (by omega) (by omega))) (q_okl h0 c (by omega)) (h c (by omega) (fun z => z))
    · have g := s_spp_hi (p := p) (c := c) (b := b) h12 (by omega) (by omega)
      have e := s_sum_jn (f := s_len (s_spp σ b p)) (g := s_len σ) (b := b) (fun i hi => (s_spp_lo h12 hb hi).1.symm) (by have e1 : s_len (s_spp σ b p) b = p := s_spp_b; have e2 : s_len (s_spp σ b p) (b + 1) = s_len σ b - p := s_spp_b1; rw [e1, e2]; omega) (c - b - 2) (fun i h1 h2 => (s_spp_hi (c := i + 1) h12 (by omega) (by omega)).1.symm)
      rw [show b + 1 + (c - b - 2) + 1 = c by omega, show b + 1 + (c - b - 2) = c - 1 by omega] at e
      refine q_eq_J (b := c - 1) (σ := σ) ⟨g.1, g.2.1, g.2.2, fun i _ => ?_⟩ (q_okl h0 _ (by omega)) (h _ (by omega) (fun z => z))
      unfold s_blf
      rw [← e]
      exact s_spp_o h12 hb (by omega) (by omega)
  have o1 := s_wa_ok o (b := b) (by rw [s_spp_0]; omega)
  unfold s_spl
  refine q_J_n (q_wa_J o1.1 (fun c hc => (o1.2.2.1 c hc).1) (by omega) (q_wa_J o.1 (fun c hc => (o.2.2.1 c hc).1) (by omega) hq)) (fun c z => ?_)
  obtain ⟨⟨z1, z2⟩, z3⟩ := z
  rcases z1 with z1 | z1
  · exact z2 z1
  · exact z3 z1
theorem q_dp_J (h0 : s_ok σ) (hb : b < σ 0) (h : q_J σ q_n) : q_J (s_dp σ b) q_n := fun c hc _ => by
  have k0 := h0.1
  rw [s_dp_0] at hc
  by_cases c1 : c < b
  · have hs := s_sum_mono (f := s_len σ) (show c + 1 ≤ b by omega)
    have hs2 : s_sum (s_len σ) (c + 1) = s_sum (s_len σ) c + s_len σ c := rfl
    refine q_eq_J (q_eq_of (fun d hd => (s_dp_lo k0 hb (by omega)).1) (s_dp_lo k0 hb c1).2.1 (s_dp_lo k0 hb c1).2.2 (fun i h1 h2 => ?_)) (q_okl h0 c (by omega)) (h c (by omega) (fun z => z))
    rw [s_dp_val k0, if_neg (by omega)]
  · have g := s_dp_hi (b := b) (c := c) k0 (by omega) (by omega)
    have e := s_sum_dr (f := s_len σ) (g := s_len (s_dp σ b)) (b := b) (fun i hi => (s_dp_lo k0 hb hi).1) (c - b) (fun i h1 h2 => (s_dp_hi k0 h1 (by omega)).1)
    rw [show b + (c - b) + 1 = c + 1 by omega, show b + (c - b) = c by omega] at e
    have hend := s_end_le (σ := σ) (b := c + 1) (by omega)
    have hs := s_sum_mono (f := s_len (s_dp σ b)) (show b ≤ c by omega)
    have hb0 : s_sum (s_len (s_dp σ b)) b = s_sum (s_len σ) b := s_sum_congr _ (fun i hi => (s_dp_lo k0 hb hi).1)
    refine q_eq_J (b := c + 1) (σ := σ) ⟨g.1, g.2.1, g.2.2, fun i hi => ?_⟩ (q_okl h0 _ (by omega)) (h _ (by omega) (fun z => z))
    unfold s_blf
    rw [s_dp_val k0, if_pos (by omega)]
    congr 1
    omega
end QST

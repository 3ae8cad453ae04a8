/-! ===== the words behind the mini machine's tables: each by its place in lw_tbl (places by program) ===== -/
def mj_gw : Cond → Bool
  | .arrayClass _ => true
  | .methodLinkNest .. => true
  | .arrayOver (.object _) => true
  | w => w.onTables && w.keepsFace
theorem mj_warm {s U : State} {args a' : Array Value} {c : Cond} (hW : s.WarmedH U.vm) (hc : mj_gw c = true) (h : c.before args s = true) : c.before a' U = true := by
  have key : (c.onTables && c.keepsFace) = true → c.before a' U = true := by
    intro hk
    simp only [Bool.and_eq_true] at hk
    exact va_tabs hk.1 (rfl : (s.setVm U.vm).vm = U.vm) (Cond.before_shiftedFace (State.Shifted.of_warmed hW) _ hk.2 h)
  cases c with
  | arrayClass ty => exact word_at hW (Or.inr ⟨_, rfl⟩) h
  | methodLinkNest a i x h' => exact va_Nw.use rfl (va_Nw.warmM hW (va_Nw.of rfl h))
  | arrayOver ty =>
    cases ty with
    | object C => exact va_AO.use (va_AO.moved hW.alike (va_AO.of h))
    | _ => exact key hc
  | _ => exact key hc
/-- all words that last -/
def mj_GT : List Cond := lw_tbl.filter mj_gw
theorem mj_GT_of {w : Cond} (h : w ∈ lw_tbl) (hg : mj_gw w = true) : w ∈ mj_GT := List.mem_filter.mpr ⟨h, hg⟩
theorem mj_GT_warm {s : State} {args : Array Value} (hts : ∀ w ∈ mj_GT, w.before args s = true) : ∀ w ∈ mj_GT, ∀ (a' : Array Value) (U : State), s.WarmedH U.vm → w.before a' U = true :=
  fun w hw a' U hW => mj_warm hW (List.mem_filter.mp hw).2 (hts w hw)
theorem mj_pl {w : Cond} {p : Nat} (h : lw_tbl[p]? = some w) (hg : mj_gw w = true) : w ∈ mj_GT := mj_GT_of (List.mem_of_getElem? h) hg
theorem mj_zip {α β : Type} {l : List α} {ps : List β} {f : α × β → Bool} (h : (l.zip ps).all f = true) (hn : l.length = ps.length) {q : α} (hq : q ∈ l) : ∃ p, f (q, p) = true := by
  obtain ⟨i, hi, rfl⟩ := List.getElem_of_mem hq
  have hz : (l[i], ps[i]'(hn ▸ hi)) ∈ l.zip ps := by
    have hlen : i < (l.zip ps).length := by rw [List.length_zip]; omega
    have := List.getElem_mem hlen
    rwa [List.getElem_zip] at this
  exact ⟨_, List.all_eq_true.mp h _ hz⟩
/-- bytes by their numbers -/
def mj_bl : List UInt8 → List UInt8 → Bool
  | [], [] => true
  | a :: s, b :: t => Nat.beq a.toNat b.toNat && mj_bl s t
  | _, _ => false
theorem mj_bl_ok : ∀ (s t : List UInt8), mj_bl s t = true → s = t
  | [], [], _ => rfl
  | [], _ :: _, h => by cases h
  | _ :: _, [], h => by cases h
  | a :: s, b :: t, h => by
    unfold mj_bl at h
    rw [Bool.and_eq_true] at h
    rw [UInt8.toNat_inj.mp (Nat.eq_of_beq_eq_true h.1), mj_bl_ok s t h.2]
def mj_eqc (y : MethodName) (b : ByteArray) (l : Nat) (r : Option FieldType) (o : Option Cond) : Bool := match o with
  | some (.code y' b' l' r') => mj_bl b.data.toList b'.data.toList && decide (y = y' ∧ l = l' ∧ r = r')
  | _ => false
theorem mj_eqc_ok {y : MethodName} {b : ByteArray} {l : Nat} {r : Option FieldType} {o : Option Cond} (h : mj_eqc y b l r o = true) : o = some (.code y b l r) := by
  unfold mj_eqc at h
  split at h
  · next y' b' l' r' =>
    rw [Bool.and_eq_true] at h
    obtain ⟨h1, h2⟩ := h
    obtain ⟨rfl, rfl, rfl⟩ := of_decide_eq_true h2
    have e : b.data = b'.data := by
      have := mj_bl_ok _ _ h1
      exact Array.toList_inj.mp this
    have e2 : b = b' := by
      cases b
      cases b'
      exact congrArg _ e
    rw [e2]
  · cases h
def mj_eqw (w : Cond) (o : Option Cond) : Bool := match w with
  | .code y b l r => mj_eqc y b l r o
  | w => decide (o = some w)
theorem mj_eqw_ok {w : Cond} {o : Option Cond} (h : mj_eqw w o = true) : o = some w := by
  unfold mj_eqw at h
  split at h
  · exact mj_eqc_ok h
  · exact of_decide_eq_true h
/-- the words ws stand in lw_tbl at the places ps -/
def mj_ats (ws : List Cond) (ps : List Nat) : Bool := (ws.zip ps).all (fun z => mj_eqw z.1 lw_tbl[z.2]?) && Nat.beq ws.length ps.length && ws.all mj_gw
theorem mj_ats_in {ws : List Cond} {ps : List Nat} (h : mj_ats ws ps = true) : ∀ w ∈ ws, w ∈ mj_GT := by
  unfold mj_ats at h
  simp only [Bool.and_eq_true] at h
  intro w hw
  obtain ⟨p, hp⟩ := mj_zip h.1.1 (Nat.eq_of_beq_eq_true h.1.2) hw
  exact mj_pl (mj_eqw_ok hp) (List.all_eq_true.mp h.2 w hw)
def mj_cw (j : Nat) : Cond := if mj_h j = [] then .code (mj_y j) (mj_b j) (mj_l j) (mj_r j) else .codeWith (mj_y j) (mj_b j) (mj_l j) (mj_r j) (mj_h j)
def mj_host : String := "PickedForms"
/-- what a call site's words are -/
def mj_wd (q : Nat × Nat × Nat × Nat) : List Cond := match q with
  | (o, x, 0, j) => [.methodLink (mj_own o) x (mj_y j), .instanceMethod (mj_y j), .selects (mj_y j).cls (mj_y j) (mj_y j), .initialized (mj_y j).cls, mj_cw j]
  | (o, x, 1, j) => [.methodLink (mj_own o) x (mj_y j), .static (mj_y j), .initialized (mj_y j).cls, mj_cw j]
  | (o, x, 2, j) => [.methodLink (mj_own o) x (mj_y j), .instanceMethod (mj_y j), .initialized (mj_y j).cls, mj_cw j]
  | (o, x, 3, j) => [.methodLinkNest (mj_own o) x (mj_y j) mj_host, .instanceMethod (mj_y j), .initialized (mj_y j).cls, mj_cw j]
  | (o, x, 4, _) => [.methodLink (mj_own o) x Lib.objectInit, .instanceMethod Lib.objectInit, .code Lib.objectInit ⟨#[0xb1]⟩ 1 none]
  | (o, x, 6, _) => [.methodLink (mj_own o) x Lib.Math.max.name, .static Lib.Math.max.name, .initialized "java/lang/Math", .code Lib.Math.max.name Lib.Math.max.code 2 (some .int)]
  | (o, x, 7, _) => [.methodLink (mj_own o) x Lib.Math.min.name, .static Lib.Math.min.name, .initialized "java/lang/Math", .code Lib.Math.min.name Lib.Math.min.code 2 (some .int)]
  | (o, x, _, _) => [.methodLink (mj_own o) x arraycopyName, .native arraycopyName, .static arraycopyName, .initialized "java/lang/System"]
def mj_callp_0 : List (List Nat) := [[52, 53, 32, 54], [590, 591, 31, 592], [576, 577, 578, 32, 579], [581, 582, 583, 32, 584], [585, 586, 31, 587], [751, 752, 31, 753], [457, 458, 459, 32, 460], [488, 489, 490, 32, 491], [302, 303, 304, 32, 305], [534, 535, 536, 32, 537], [55, 56, 57], [60, 61, 33, 62], [110, 111, 34, 112], [130, 131, 35, 132], [152, 153, 36, 154], [197, 198, 37, 199], [217, 218, 38, 219], [237, 238, 39, 239], [255, 256, 40, 257], [63, 56, 57]]
def mj_callp_1 : List (List Nat) := [[113, 56, 57], [116, 61, 33, 62], [133, 56, 57], [155, 56, 57], [200, 56, 57], [202, 153, 36, 154], [220, 56, 57], [222, 153, 36, 154], [240, 56, 57], [242, 153, 36, 154], [258, 56, 57], [306, 307, 308, 33, 309], [378, 379, 380, 34, 381], [399, 400, 401, 33, 402], [406, 408, 2, 32, 409], [382, 384, 1, 34, 385], [386, 387, 388, 33, 389], [390, 391, 45, 392], [393, 394, 46, 395], [396, 398, 397, 49]]
def mj_callp_2 : List (List Nat) := [[403, 404, 45, 405], [410, 411, 412, 33, 413], [414, 415, 416, 33, 417], [418, 419, 420, 37, 421], [454, 455, 45, 456], [422, 404, 45, 405], [423, 394, 46, 395], [424, 425, 426, 36, 427], [428, 429, 430, 36, 431], [442, 443, 444, 36, 445], [453, 447, 448, 36, 449], [432, 433, 45, 434], [435, 436, 46, 437], [438, 440, 3, 36, 441], [446, 447, 448, 36, 449], [450, 451, 45, 452], [461, 462, 32, 463], [465, 466, 32, 467], [484, 485, 486, 33, 487], [493, 495, 4, 32, 496]]
def mj_callp_3 : List (List Nat) := [[497, 498, 499, 33, 500], [502, 504, 5, 32, 505], [506, 507, 508, 33, 509], [510, 512, 6, 32, 513], [530, 531, 532, 33, 533], [501, 411, 412, 33, 413], [514, 516, 7, 32, 517], [525, 526, 527, 33, 528], [529, 447, 448, 36, 449], [518, 519, 520, 36, 521], [522, 425, 426, 36, 427], [523, 404, 45, 405], [524, 429, 430, 36, 431], [539, 540, 541, 39, 542], [564, 565, 566, 39, 567], [568, 569, 570, 39, 571], [572, 573, 574, 39, 575], [543, 485, 486, 33, 487], [544, 546, 8, 39, 547], [550, 394, 46, 395]]
def mj_callp_4 : List (List Nat) := [[551, 425, 426, 36, 427], [552, 404, 45, 405], [553, 429, 430, 36, 431], [554, 556, 9, 39, 557], [560, 562, 10, 39, 563], [549, 455, 45, 456], [558, 443, 444, 36, 445], [559, 447, 448, 36, 449], [593, 594, 595, 32, 596], [602, 603, 31, 604], [666, 667, 668, 32, 669], [696, 697, 31, 698], [700, 701, 31, 702], [703, 704, 705, 32, 706], [598, 600, 11, 32, 601], [605, 606, 607, 32, 608], [610, 611, 31, 612], [617, 618, 619, 32, 620], [688, 689, 690, 32, 691], [613, 614, 615, 32, 616]]
def mj_callp_5 : List (List Nat) := [[622, 624, 12, 32, 625], [665, 404, 45, 405], [626, 627, 628, 40, 629], [630, 411, 412, 33, 413], [631, 415, 416, 33, 417], [632, 526, 527, 33, 528], [633, 635, 13, 40, 636], [644, 646, 15, 40, 647], [648, 650, 16, 40, 651], [653, 655, 17, 40, 656], [661, 663, 18, 40, 664], [637, 451, 45, 452], [638, 640, 14, 40, 641], [643, 404, 45, 405], [642, 455, 45, 456], [652, 433, 45, 434], [657, 658, 659, 36, 660], [670, 671, 672, 33, 673], [676, 678, 19, 32, 679], [680, 681, 682, 33, 683]]
def mj_callp_6 : List (List Nat) := [[684, 686, 20, 32, 687], [692, 694, 21, 32, 695], [707, 708, 32, 709], [711, 713, 22, 32, 714], [715, 716, 717, 38, 718], [743, 744, 745, 38, 746], [747, 748, 749, 38, 750], [719, 415, 416, 33, 417], [720, 519, 520, 36, 521], [721, 723, 23, 38, 724], [739, 741, 26, 38, 742], [725, 526, 527, 33, 528], [726, 728, 24, 38, 729], [734, 736, 25, 38, 737], [730, 404, 45, 405], [731, 732, 38, 733], [738, 658, 659, 36, 660], [754, 755, 31, 756], [757, 758, 31, 759], [796, 797, 31, 798]]
def mj_callp_7 : List (List Nat) := [[816, 817, 818, 32, 819], [821, 822, 31, 823], [824, 825, 826, 32, 827], [829, 830, 31, 831], [833, 834, 835, 32, 836], [838, 839, 31, 840], [760, 761, 762, 32, 763], [765, 766, 767, 33, 768], [787, 789, 27, 32, 790], [769, 498, 499, 33, 500], [770, 485, 486, 33, 487], [791, 792, 793, 33, 794], [795, 455, 45, 456], [799, 800, 801, 32, 802], [812, 813, 814, 32, 815], [804, 806, 28, 32, 807], [808, 810, 29, 32, 811], [828, 387, 388, 33, 389], [841, 842, 843, 32, 844], [855, 856, 31, 857]]
def mj_callp_8 : List (List Nat) := [[877, 878, 879, 32, 880], [847, 848, 849, 33, 850], [851, 853, 30, 33, 854], [858, 859, 860, 32, 861], [868, 869, 870, 32, 871], [864, 865, 866, 33, 867], [873, 874, 875, 34, 876], [881, 882, 883, 33, 884]]
theorem mj_call_ok : ∀ q ∈ mj_call, ∀ w ∈ mj_wd q, w ∈ mj_GT := by
  have h0 : (((mj_call.drop 0).take 20).zip mj_callp_0).all (fun z => mj_ats (mj_wd z.1) z.2) = true := by decide +kernel
  have n0 : ((mj_call.drop 0).take 20).length = mj_callp_0.length := by decide +kernel
  have h1 : (((mj_call.drop 20).take 20).zip mj_callp_1).all (fun z => mj_ats (mj_wd z.1) z.2) = true := by decide +kernel
  have n1 : ((mj_call.drop 20).take 20).length = mj_callp_1.length := by decide +kernel
  have h2 : (((mj_call.drop 40).take 20).zip mj_callp_2).all (fun z => mj_ats (mj_wd z.1) z.2) = true := by decide +kernel
  have n2 : ((mj_call.drop 40).take 20).length = mj_callp_2.length := by decide +kernel
  have h3 : (((mj_call.drop 60).take 20).zip mj_callp_3).all (fun z => mj_ats (mj_wd z.1) z.2) = true := by decide +kernel
  have n3 : ((mj_call.drop 60).take 20).length = mj_callp_3.length := by decide +kernel
  have h4 : (((mj_call.drop 80).take 20).zip mj_callp_4).all (fun z => mj_ats (mj_wd z.1) z.2) = true := by decide +kernel
  have n4 : ((mj_call.drop 80).take 20).length = mj_callp_4.length := by decide +kernel
  have h5 : (((mj_call.drop 100).take 20).zip mj_callp_5).all (fun z => mj_ats (mj_wd z.1) z.2) = true := by decide +kernel
  have n5 : ((mj_call.drop 100).take 20).length = mj_callp_5.length := by decide +kernel
  have h6 : (((mj_call.drop 120).take 20).zip mj_callp_6).all (fun z => mj_ats (mj_wd z.1) z.2) = true := by decide +kernel
  have n6 : ((mj_call.drop 120).take 20).length = mj_callp_6.length := by decide +kernel
  have h7 : (((mj_call.drop 140).take 20).zip mj_callp_7).all (fun z => mj_ats (mj_wd z.1) z.2) = true := by decide +kernel
  have n7 : ((mj_call.drop 140).take 20).length = mj_callp_7.length := by decide +kernel
  have h8 : (((mj_call.drop 160).take 20).zip mj_callp_8).all (fun z => mj_ats (mj_wd z.1) z.2) = true := by decide +kernel
  have n8 : ((mj_call.drop 160).take 20).length = mj_callp_8.length := by decide +kernel
  have e : mj_call = (mj_call.drop 0).take 20 ++ ((mj_call.drop 20).take 20 ++ ((mj_call.drop 40).take 20 ++ ((mj_call.drop 60).take 20 ++ ((mj_call.drop 80).take 20 ++ ((mj_call.drop 100).take 20 ++ ((mj_call.drop 120).take 20 ++ ((mj_call.drop 140).take 20 ++ ((mj_call.drop 160).take 20)))))))) := by decide +kernel
  intro q hq
  rw [e] at hq
  simp only [List.mem_append] at hq
  rcases hq with hq | hq | hq | hq | hq | hq | hq | hq | hq
  · obtain ⟨p, hp⟩ := mj_zip h0 n0 hq
    exact mj_ats_in hp
  · obtain ⟨p, hp⟩ := mj_zip h1 n1 hq
    exact mj_ats_in hp
  · obtain ⟨p, hp⟩ := mj_zip h2 n2 hq
    exact mj_ats_in hp
  · obtain ⟨p, hp⟩ := mj_zip h3 n3 hq
    exact mj_ats_in hp
  · obtain ⟨p, hp⟩ := mj_zip h4 n4 hq
    exact mj_ats_in hp
  · obtain ⟨p, hp⟩ := mj_zip h5 n5 hq
    exact mj_ats_in hp
  · obtain ⟨p, hp⟩ := mj_zip h6 n6 hq
    exact mj_ats_in hp
  · obtain ⟨p, hp⟩ := mj_zip h7 n7 hq
    exact mj_ats_in hp
  · obtain ⟨p, hp⟩ := mj_zip h8 n8 hq
    exact mj_ats_in hp

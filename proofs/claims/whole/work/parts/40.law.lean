/-! THE LAW over a pure invariant -/
def jX : jG → Nat → (Nat → Int32) → Prop
  | (p, l, e, R, s, m, args, below, meth, c, D, ad, cl, Q, cells, slots, A), L, xs => va_X (ad 3000) L xs s s.heap ∧ ad 3000 < s.heap.size ∧ ¬ A (ad 3000)
section JLAW
variable {Γ : jG} {nL : Nat} {cc : ByteArray} {own : String} {rm : Room} {pc pc' : Nat} {lv : List (Nat × Value)} {st : List Value} {μ : Mem} {L : Nat} {xs : Nat → Int32}
theorem j_sld {j : Nat} (C : jC Γ nL cc own rm) (S : jX Γ L xs) (hd : decode cc pc = .ok (.iaload, 1)) (hp : pc + 1 = pc') (hj : j < L) (hL : L ≤ 384) (kk : jJ Γ nL pc' lv (.int (xs j) :: st) μ) : jJ Γ nL pc lv (.int (nI j) :: .ref 3000 :: st) μ := by
  subst hp
  obtain ⟨p, l, e, R, s, m, args, below, meth, c, D, ad, cl, Q, cells, slots, A⟩ := Γ
  obtain ⟨hx, hb, hml, hown, hts, hK, hi, hA, hR, hc1, hc2, hStr⟩ := C
  obtain ⟨s1, s2, s3⟩ := S
  intro ls H locs h1 h2 h3
  refine va_sld hx hb s1 s2 s3 h3 (vp_in_nI hj (by omega)) hd ?_
  rw [nI_clamp (by omega)]
  exact kk ls H locs h1 h2 h3
theorem j_slen (C : jC Γ nL cc own rm) (S : jX Γ L xs) (hd : decode cc pc = .ok (.arraylength, 1)) (hp : pc + 1 = pc') (kk : jJ Γ nL pc' lv (.int (nI L) :: st) μ) : jJ Γ nL pc lv (.ref 3000 :: st) μ := by
  subst hp
  obtain ⟨p, l, e, R, s, m, args, below, meth, c, D, ad, cl, Q, cells, slots, A⟩ := Γ
  obtain ⟨hx, hb, hml, hown, hts, hK, hi, hA, hR, hc1, hc2, hStr⟩ := C
  obtain ⟨s1, s2, s3⟩ := S
  exact fun ls H locs h1 h2 h3 => va_slen hx hb s1 s2 s3 h3 hd (kk ls H locs h1 h2 h3)
theorem j_iaddv {x y v : Int32} (C : jC Γ nL cc own rm) (hd : decode cc pc = .ok (.iadd, 1)) (hp : pc + 1 = pc') (hv : x + y = v) (k : jJ Γ nL pc' lv (.int v :: st) μ) : jJ Γ nL pc lv (.int y :: .int x :: st) μ := j_iadd C hd hp (by rw [hv]; exact k)
end JLAW
def ok_rock (I : Mem → Prop) : Prop := ∀ (a1 : Int32) (a2 : Int32) (μ : Mem), I μ → ∃ (r : Int32) (μ1 μ2 : Mem), f_X7_rock a1 a2 μ = some (r, μ1) ∧ f_X8_rock a1 a2 μ1 = some (r, μ2) ∧ I μ2
def ok_out (I : Mem → Prop) : Prop := ∀ (μ : Mem), I μ → ∃ (r : Int32) (μ1 μ2 : Mem), f_X7_out μ = some (r, μ1) ∧ f_X8_out μ1 = some (r, μ2) ∧ I μ2
def ok_turn (I : Mem → Prop) : Prop := ∀ (a1 : Int32) (a2 : Int32) (μ : Mem), I μ → ∃ (r : Int32) (μ1 μ2 : Mem), f_X7_turn a1 a2 μ = some (r, μ1) ∧ f_X8_turn a1 a2 μ1 = some (r, μ2) ∧ I μ2
def ok_dark (I : Mem → Prop) : Prop := ∀ (a1 : Int32) (a2 : Int32) (a3 : Int32) (μ : Mem), I μ → ∃ (r : Int32) (μ1 μ2 : Mem), f_X7_dark a1 a2 a3 μ = some (r, μ1) ∧ f_X8_dark a1 a2 a3 μ1 = some (r, μ2) ∧ I μ2
def ok_delay (I : Mem → Prop) : Prop := ∀ (a1 : Int32) (a2 : Int32) (a3 : Int32) (μ : Mem), I μ → ∃ (r : Int32) (μ1 μ2 : Mem), f_X7_delay a1 a2 a3 μ = some (r, μ1) ∧ f_X8_delay a1 a2 a3 μ1 = some (r, μ2) ∧ I μ2
def ok_told (I : Mem → Prop) : Prop := ∀ (a1 : Int32) (a2 : Int32) (μ : Mem), I μ → ∃ (r : Int32) (μ1 μ2 : Mem), f_X7_told a1 a2 μ = some (r, μ1) ∧ f_X8_told a1 a2 μ1 = some (r, μ2) ∧ I μ2
def ok_heard (I : Mem → Prop) : Prop := ∀ (a1 : Int32) (a2 : Int32) (μ : Mem), I μ → ∃ (r : Int32) (μ1 μ2 : Mem), f_X7_heard a1 a2 μ = some (r, μ1) ∧ f_X8_heard a1 a2 μ1 = some (r, μ2) ∧ I μ2
def ok_counts (I : Mem → Prop) : Prop := ∀ (a1 : Int32) (a2 : Int32) (μ : Mem), I μ → ∃ (r : Int32) (μ1 μ2 : Mem), f_X7_counts a1 a2 μ = some (r, μ1) ∧ f_X8_counts a1 a2 μ1 = some (r, μ2) ∧ I μ2
def ok_due (I : Mem → Prop) : Prop := ∀ (a1 : Int32) (a2 : Int32) (a3 : Int32) (μ : Mem), I μ → ∃ (r : Int32) (μ1 μ2 : Mem), f_X7_due a1 a2 a3 μ = some (r, μ1) ∧ f_X8_due a1 a2 a3 μ1 = some (r, μ2) ∧ I μ2
def ok_rule (I : Mem → Prop) : Prop := ∀ (a1 : Int32) (a2 : Int32) (μ : Mem), I μ → ∃ (r : Int32) (μ1 μ2 : Mem), f_X7_rule a1 a2 μ = some (r, μ1) ∧ f_X8_rule a1 a2 μ1 = some (r, μ2) ∧ I μ2
def ok_add (I : Mem → Prop) : Prop := ∀ (a1 : Int32) (a2 : Int32) (a3 : Int32) (a4 : Int32) (μ : Mem), I μ → ∃ (r : Int32) (μ1 μ2 : Mem), f_X7_add a1 a2 a3 a4 μ = some (r, μ1) ∧ f_X8_add a1 a2 a3 a4 μ1 = some (r, μ2) ∧ I μ2
def ok_type (I : Mem → Prop) : Prop := ∀ (a1 : Int32) (μ : Mem), I μ → ∃ (r : Int32) (μ1 μ2 : Mem), f_X7_type a1 μ = some (r, μ1) ∧ f_X8_type a1 μ1 = some (r, μ2) ∧ I μ2
def ok_laws (I : Mem → Prop) : Prop := ∀ (μ : Mem), I μ → ∃ (r : Int32) (μ1 μ2 : Mem), f_X7_laws μ = some (r, μ1) ∧ f_X8_laws μ1 = some (r, μ2) ∧ I μ2
def ok_rocks (I : Mem → Prop) : Prop := ∀ (μ : Mem), I μ → ∃ (r : Int32) (μ1 μ2 : Mem), f_X7_rocks μ = some (r, μ1) ∧ f_X8_rocks μ1 = some (r, μ2) ∧ I μ2
def ok_count (I : Mem → Prop) : Prop := ∀ (a1 : Int32) (μ : Mem), I μ → ∃ (r : Int32) (μ1 μ2 : Mem), f_X7_count a1 μ = some (r, μ1) ∧ f_X8_count a1 μ1 = some (r, μ2) ∧ I μ2
def ok_minute (I : Mem → Prop) : Prop := ∀ (μ : Mem), I μ → ∃ (r : Int32) (μ1 μ2 : Mem), f_X7_minute μ = some (r, μ1) ∧ f_X8_minute μ1 = some (r, μ2) ∧ I μ2
def ok_night (I : Mem → Prop) : Prop := ∀ (a1 : Int32) (μ : Mem), I μ → ∃ (r : Int32) (μ1 μ2 : Mem), f_X7_night a1 μ = some (r, μ1) ∧ f_X8_night a1 μ1 = some (r, μ2) ∧ I μ2
def ok_lots (I : Mem → Prop) : Prop := ∀ (a1 : Int32) (μ : Mem), I μ → ∃ (r : Int32) (μ1 μ2 : Mem), f_X7_lots a1 μ = some (r, μ1) ∧ f_X8_lots a1 μ1 = some (r, μ2) ∧ I μ2
def ok_seed (I : Mem → Prop) : Prop := ∀ (a1 : Int32) (μ : Mem), I μ → ∃ (r : Int32) (μ1 μ2 : Mem), f_X7_seed a1 μ = some (r, μ1) ∧ f_X8_seed a1 μ1 = some (r, μ2) ∧ I μ2
def ok_behind (I : Mem → Prop) : Prop := ∀ (a1 : Int32) (a2 : Int32) (a3 : Int32) (μ : Mem), I μ → ∃ (r : Int32) (μ1 μ2 : Mem), f_X7_behind a1 a2 a3 μ = some (r, μ1) ∧ f_X8_behind a1 a2 a3 μ1 = some (r, μ2) ∧ I μ2
def ok_when (I : Mem → Prop) : Prop := ∀ (a1 : Int32) (μ : Mem), I μ → ∃ (r : Int32) (μ1 μ2 : Mem), f_X7_when a1 μ = some (r, μ1) ∧ f_X8_when a1 μ1 = some (r, μ2) ∧ I μ2
def ok_darkest (I : Mem → Prop) : Prop := ∀ (a1 : Int32) (μ : Mem), I μ → ∃ (r : Int32) (μ1 μ2 : Mem), f_X7_darkest a1 μ = some (r, μ1) ∧ f_X8_darkest a1 μ1 = some (r, μ2) ∧ I μ2
def ok_holds (I : Mem → Prop) : Prop := ∀ (a1 : Int32) (μ : Mem), I μ → ∃ (r : Int32) (μ1 μ2 : Mem), f_X7_holds a1 μ = some (r, μ1) ∧ f_X8_holds a1 μ1 = some (r, μ2) ∧ I μ2
def ok_bears (I : Mem → Prop) : Prop := ∀ (μ : Mem), I μ → ∃ (r : Int32) (μ1 μ2 : Mem), f_X7_bears μ = some (r, μ1) ∧ f_X8_bears μ1 = some (r, μ2) ∧ I μ2
def ok_worst (I : Mem → Prop) : Prop := ∀ (a1 : Int32) (μ : Mem), I μ → ∃ (r : Int32) (μ1 μ2 : Mem), f_X7_worst a1 μ = some (r, μ1) ∧ f_X8_worst a1 μ1 = some (r, μ2) ∧ I μ2
def ok_least (I : Mem → Prop) : Prop := ∀ (a1 : Int32) (a2 : Int32) (μ : Mem), I μ → ∃ (r : Int32) (μ1 μ2 : Mem), f_X7_least a1 a2 μ = some (r, μ1) ∧ f_X8_least a1 a2 μ1 = some (r, μ2) ∧ I μ2
def ok_spare (I : Mem → Prop) : Prop := ∀ (μ : Mem), I μ → ∃ (r : Int32) (μ1 μ2 : Mem), f_X7_spare μ = some (r, μ1) ∧ f_X8_spare μ1 = some (r, μ2) ∧ I μ2
def ok_log (I : Mem → Prop) : Prop := ∀ (a1 : Int32) (a2 : Int32) (a3 : Int32) (μ : Mem), I μ → ∃ (r : Int32) (μ1 μ2 : Mem), f_X7_log a1 a2 a3 μ = some (r, μ1) ∧ f_X8_log a1 a2 a3 μ1 = some (r, μ2) ∧ I μ2
def ok_burn (I : Mem → Prop) : Prop := ∀ (μ : Mem), I μ → ∃ (r : Int32) (μ1 μ2 : Mem), f_X7_burn μ = some (r, μ1) ∧ f_X8_burn μ1 = some (r, μ2) ∧ I μ2
def ok_sure (I : Mem → Prop) : Prop := ∀ (μ : Mem), I μ → ∃ (r : Int32) (μ1 μ2 : Mem), f_X7_sure μ = some (r, μ1) ∧ f_X8_sure μ1 = some (r, μ2) ∧ I μ2
def ok_fits (I : Mem → Prop) : Prop := ∀ (a1 : Int32) (μ : Mem), I μ → ∃ (r : Int32) (μ1 μ2 : Mem), f_X7_fits a1 μ = some (r, μ1) ∧ f_X8_fits a1 μ1 = some (r, μ2) ∧ I μ2
def ok_ask (I : Mem → Prop) : Prop := ∀ (μ : Mem), I μ → ∃ (r : Int32) (μ1 μ2 : Mem), f_X7_ask μ = some (r, μ1) ∧ f_X8_ask μ1 = some (r, μ2) ∧ I μ2
def ok_ship (I : Mem → Prop) : Prop := ∀ (a1 : Int32) (a2 : Int32) (μ : Mem), I μ → ∃ (r : Int32) (μ1 μ2 : Mem), f_X7_ship a1 a2 μ = some (r, μ1) ∧ f_X8_ship a1 a2 μ1 = some (r, μ2) ∧ I μ2
def ok_image (I : Mem → Prop) : Prop := ∀ (μ : Mem), I μ → ∃ (r : Int32) (μ1 μ2 : Mem), f_X7_image μ = some (r, μ1) ∧ f_X8_image μ1 = some (r, μ2) ∧ I μ2
def ok_restore (I : Mem → Prop) : Prop := ∀ (μ : Mem), I μ → ∃ (r : Int32) (μ1 μ2 : Mem), f_X7_restore μ = some (r, μ1) ∧ f_X8_restore μ1 = some (r, μ2) ∧ I μ2
def ok_delays (I : Mem → Prop) : Prop := ∀ (a1 : Int32) (a2 : Int32) (a3 : Int32) (a4 : Int32) (μ : Mem), I μ → ∃ (r : Int32) (μ1 μ2 : Mem), f_X7_delays a1 a2 a3 a4 μ = some (r, μ1) ∧ f_X8_delays a1 a2 a3 a4 μ1 = some (r, μ2) ∧ I μ2
def ok_film (I : Mem → Prop) : Prop := ∀ (a1 : Int32) (a2 : Int32) (a3 : Int32) (μ : Mem), I μ → ∃ (r : Int32) (μ1 μ2 : Mem), f_X7_film a1 a2 a3 μ = some (r, μ1) ∧ f_X8_film a1 a2 a3 μ1 = some (r, μ2) ∧ I μ2
def ok_seen (I : Mem → Prop) : Prop := ∀ (a1 : Int32) (a2 : Int32) (a3 : Int32) (μ : Mem), I μ → ∃ (r : Int32) (μ1 μ2 : Mem), f_X7_seen a1 a2 a3 μ = some (r, μ1) ∧ f_X8_seen a1 a2 a3 μ1 = some (r, μ2) ∧ I μ2
def ok_sheet (I : Mem → Prop) : Prop := ∀ (a1 : Int32) (a2 : Int32) (a3 : Int32) (μ : Mem), I μ → ∃ (r : Int32) (μ1 μ2 : Mem), f_X7_sheet a1 a2 a3 μ = some (r, μ1) ∧ f_X8_sheet a1 a2 a3 μ1 = some (r, μ2) ∧ I μ2
def ok_drop (I : Mem → Prop) : Prop := ∀ (a1 : Int32) (μ : Mem), I μ → ∃ (r : Int32) (μ1 μ2 : Mem), f_X7_drop a1 μ = some (r, μ1) ∧ f_X8_drop a1 μ1 = some (r, μ2) ∧ I μ2
def ok_item (I : Mem → Prop) : Prop := ∀ (a1 : Int32) (a2 : Int32) (a3 : Int32) (a4 : Int64) (μ : Mem), I μ → ∃ (r : Int32) (μ1 μ2 : Mem), f_X7_item a1 a2 a3 a4 μ = some (r, μ1) ∧ f_X8_item a1 a2 a3 a4 μ1 = some (r, μ2) ∧ I μ2
def ok_copy (I : Mem → Prop) : Prop := ∀ (a1 : Int32) (a2 : Int32) (a3 : Int32) (a4 : Int32) (a5 : Int32) (μ : Mem), I μ → ∃ (r : Int32) (μ1 μ2 : Mem), f_X7_copy a1 a2 a3 a4 a5 μ = some (r, μ1) ∧ f_X8_copy a1 a2 a3 a4 a5 μ1 = some (r, μ2) ∧ I μ2
def opsOK (I : Mem → Prop) : Prop := ok_rock I ∧ ok_out I ∧ ok_turn I ∧ ok_dark I ∧ ok_delay I ∧ ok_told I ∧ ok_heard I ∧ ok_counts I ∧ ok_due I ∧ ok_rule I ∧ ok_add I ∧ ok_type I ∧ ok_laws I ∧ ok_rocks I ∧ ok_count I ∧ ok_minute I ∧ ok_night I ∧ ok_lots I ∧ ok_seed I ∧ ok_behind I ∧ ok_when I ∧ ok_darkest I ∧ ok_holds I ∧ ok_bears I ∧ ok_worst I ∧ ok_least I ∧ ok_spare I ∧ ok_log I ∧ ok_burn I ∧ ok_sure I ∧ ok_fits I ∧ ok_ask I ∧ ok_ship I ∧ ok_image I ∧ ok_restore I ∧ ok_delays I ∧ ok_film I ∧ ok_seen I ∧ ok_sheet I ∧ ok_drop I ∧ ok_item I ∧ ok_copy I
def RLW : String := RL
theorem gwt2_102 : Cond.methodLink RL 36 yX7_told ∈ G0 := gm_t2 (List.mem_of_getElem? (i := 102) rfl) rfl
theorem gwt2_103 : Cond.instanceMethod yX7_told ∈ G0 := gm_t2 (List.mem_of_getElem? (i := 103) rfl) rfl
theorem gwt2_104 : Cond.selects RX7 yX7_told yX7_told ∈ G0 := gm_t2 (List.mem_of_getElem? (i := 104) rfl) rfl
theorem gwt2_105 : Cond.code yX7_told cX7_told 4 (some .int) ∈ G0 := gm_t2 (List.mem_of_getElem? (i := 105) rfl) rfl
theorem gwt2_114 : Cond.methodLink RL 40 yX7_heard ∈ G0 := gm_t2 (List.mem_of_getElem? (i := 114) rfl) rfl
theorem gwt2_115 : Cond.instanceMethod yX7_heard ∈ G0 := gm_t2 (List.mem_of_getElem? (i := 115) rfl) rfl
theorem gwt2_116 : Cond.selects RX7 yX7_heard yX7_heard ∈ G0 := gm_t2 (List.mem_of_getElem? (i := 116) rfl) rfl
theorem gwt2_117 : Cond.code yX7_heard cX7_heard 3 (some .int) ∈ G0 := gm_t2 (List.mem_of_getElem? (i := 117) rfl) rfl
theorem gwt2_125 : Cond.methodLink RL 44 yX7_counts ∈ G0 := gm_t2 (List.mem_of_getElem? (i := 125) rfl) rfl
theorem gwt2_126 : Cond.instanceMethod yX7_counts ∈ G0 := gm_t2 (List.mem_of_getElem? (i := 126) rfl) rfl
theorem gwt2_127 : Cond.selects RX7 yX7_counts yX7_counts ∈ G0 := gm_t2 (List.mem_of_getElem? (i := 127) rfl) rfl
theorem gwt2_128 : Cond.code yX7_counts cX7_counts 3 (some .int) ∈ G0 := gm_t2 (List.mem_of_getElem? (i := 128) rfl) rfl
theorem gwt2_139 : Cond.methodLink RL 48 yX7_due ∈ G0 := gm_t2 (List.mem_of_getElem? (i := 139) rfl) rfl
theorem gwt2_140 : Cond.instanceMethod yX7_due ∈ G0 := gm_t2 (List.mem_of_getElem? (i := 140) rfl) rfl
theorem gwt2_141 : Cond.selects RX7 yX7_due yX7_due ∈ G0 := gm_t2 (List.mem_of_getElem? (i := 141) rfl) rfl
theorem gwt2_142 : Cond.code yX7_due cX7_due 4 (some .int) ∈ G0 := gm_t2 (List.mem_of_getElem? (i := 142) rfl) rfl
theorem gwt2_147 : Cond.methodLink RL 52 yX7_rule ∈ G0 := gm_t2 (List.mem_of_getElem? (i := 147) rfl) rfl
theorem gwt2_148 : Cond.instanceMethod yX7_rule ∈ G0 := gm_t2 (List.mem_of_getElem? (i := 148) rfl) rfl
theorem gwt2_149 : Cond.selects RX7 yX7_rule yX7_rule ∈ G0 := gm_t2 (List.mem_of_getElem? (i := 149) rfl) rfl
theorem gwt2_150 : Cond.code yX7_rule cX7_rule 3 (some .int) ∈ G0 := gm_t2 (List.mem_of_getElem? (i := 150) rfl) rfl
theorem gwt2_151 : Cond.methodLink RL 56 yX7_add ∈ G0 := gm_t2 (List.mem_of_getElem? (i := 151) rfl) rfl
theorem gwt2_152 : Cond.instanceMethod yX7_add ∈ G0 := gm_t2 (List.mem_of_getElem? (i := 152) rfl) rfl
theorem gwt2_153 : Cond.selects RX7 yX7_add yX7_add ∈ G0 := gm_t2 (List.mem_of_getElem? (i := 153) rfl) rfl
theorem gwt2_154 : Cond.code yX7_add cX7_add 5 (some .int) ∈ G0 := gm_t2 (List.mem_of_getElem? (i := 154) rfl) rfl
theorem gwt2_159 : Cond.methodLink RL 61 yX7_type ∈ G0 := gm_t2 (List.mem_of_getElem? (i := 159) rfl) rfl
theorem gwt2_160 : Cond.instanceMethod yX7_type ∈ G0 := gm_t2 (List.mem_of_getElem? (i := 160) rfl) rfl
theorem gwt2_161 : Cond.selects RX7 yX7_type yX7_type ∈ G0 := gm_t2 (List.mem_of_getElem? (i := 161) rfl) rfl
theorem gwt2_162 : Cond.code yX7_type cX7_type 2 (some .int) ∈ G0 := gm_t2 (List.mem_of_getElem? (i := 162) rfl) rfl
theorem gwt2_167 : Cond.methodLink RL 66 yX7_laws ∈ G0 := gm_t2 (List.mem_of_getElem? (i := 167) rfl) rfl
theorem gwt2_168 : Cond.instanceMethod yX7_laws ∈ G0 := gm_t2 (List.mem_of_getElem? (i := 168) rfl) rfl
theorem gwt2_169 : Cond.selects RX7 yX7_laws yX7_laws ∈ G0 := gm_t2 (List.mem_of_getElem? (i := 169) rfl) rfl
theorem gwt2_170 : Cond.code yX7_laws cX7_laws 2 (some .int) ∈ G0 := gm_t2 (List.mem_of_getElem? (i := 170) rfl) rfl
theorem gwt2_53 : Cond.methodLink RL 13 yX7_rock ∈ G0 := gm_t2 (List.mem_of_getElem? (i := 53) rfl) rfl
theorem gwt2_54 : Cond.instanceMethod yX7_rock ∈ G0 := gm_t2 (List.mem_of_getElem? (i := 54) rfl) rfl
theorem gwt2_55 : Cond.selects RX7 yX7_rock yX7_rock ∈ G0 := gm_t2 (List.mem_of_getElem? (i := 55) rfl) rfl
theorem gwt2_56 : Cond.code yX7_rock cX7_rock 3 (some .int) ∈ G0 := gm_t2 (List.mem_of_getElem? (i := 56) rfl) rfl
theorem gwt2_64 : Cond.methodLink RL 18 yX7_out ∈ G0 := gm_t2 (List.mem_of_getElem? (i := 64) rfl) rfl
theorem gwt2_65 : Cond.instanceMethod yX7_out ∈ G0 := gm_t2 (List.mem_of_getElem? (i := 65) rfl) rfl
theorem gwt2_66 : Cond.selects RX7 yX7_out yX7_out ∈ G0 := gm_t2 (List.mem_of_getElem? (i := 66) rfl) rfl
theorem gwt2_67 : Cond.code yX7_out cX7_out 1 (some .int) ∈ G0 := gm_t2 (List.mem_of_getElem? (i := 67) rfl) rfl
theorem gwt2_75 : Cond.methodLink RL 23 yX7_turn ∈ G0 := gm_t2 (List.mem_of_getElem? (i := 75) rfl) rfl
theorem gwt2_76 : Cond.instanceMethod yX7_turn ∈ G0 := gm_t2 (List.mem_of_getElem? (i := 76) rfl) rfl
theorem gwt2_77 : Cond.selects RX7 yX7_turn yX7_turn ∈ G0 := gm_t2 (List.mem_of_getElem? (i := 77) rfl) rfl
theorem gwt2_78 : Cond.code yX7_turn cX7_turn 4 (some .int) ∈ G0 := gm_t2 (List.mem_of_getElem? (i := 78) rfl) rfl
theorem gwt2_83 : Cond.methodLink RL 27 yX7_dark ∈ G0 := gm_t2 (List.mem_of_getElem? (i := 83) rfl) rfl
theorem gwt2_84 : Cond.instanceMethod yX7_dark ∈ G0 := gm_t2 (List.mem_of_getElem? (i := 84) rfl) rfl
theorem gwt2_85 : Cond.selects RX7 yX7_dark yX7_dark ∈ G0 := gm_t2 (List.mem_of_getElem? (i := 85) rfl) rfl
theorem gwt2_86 : Cond.code yX7_dark cX7_dark 4 (some .int) ∈ G0 := gm_t2 (List.mem_of_getElem? (i := 86) rfl) rfl
theorem gwt2_94 : Cond.methodLink RL 32 yX7_delay ∈ G0 := gm_t2 (List.mem_of_getElem? (i := 94) rfl) rfl
theorem gwt2_95 : Cond.instanceMethod yX7_delay ∈ G0 := gm_t2 (List.mem_of_getElem? (i := 95) rfl) rfl
theorem gwt2_96 : Cond.selects RX7 yX7_delay yX7_delay ∈ G0 := gm_t2 (List.mem_of_getElem? (i := 96) rfl) rfl
theorem gwt2_97 : Cond.code yX7_delay cX7_delay 5 (some .int) ∈ G0 := gm_t2 (List.mem_of_getElem? (i := 97) rfl) rfl
theorem gwt3_101 : Cond.methodLink RL 74 yX7_count ∈ G0 := gm_t3 (List.mem_of_getElem? (i := 101) rfl) rfl
theorem gwt3_102 : Cond.instanceMethod yX7_count ∈ G0 := gm_t3 (List.mem_of_getElem? (i := 102) rfl) rfl
theorem gwt3_103 : Cond.selects RX7 yX7_count yX7_count ∈ G0 := gm_t3 (List.mem_of_getElem? (i := 103) rfl) rfl
theorem gwt3_104 : Cond.code yX7_count cX7_count 2 (some .int) ∈ G0 := gm_t3 (List.mem_of_getElem? (i := 104) rfl) rfl
theorem gwt3_126 : Cond.methodLink RL 78 yX7_minute ∈ G0 := gm_t3 (List.mem_of_getElem? (i := 126) rfl) rfl
theorem gwt3_127 : Cond.instanceMethod yX7_minute ∈ G0 := gm_t3 (List.mem_of_getElem? (i := 127) rfl) rfl
theorem gwt3_128 : Cond.selects RX7 yX7_minute yX7_minute ∈ G0 := gm_t3 (List.mem_of_getElem? (i := 128) rfl) rfl
theorem gwt3_129 : Cond.code yX7_minute cX7_minute 1 (some .int) ∈ G0 := gm_t3 (List.mem_of_getElem? (i := 129) rfl) rfl
theorem gwt3_168 : Cond.methodLink RL 82 yX7_night ∈ G0 := gm_t3 (List.mem_of_getElem? (i := 168) rfl) rfl
theorem gwt3_169 : Cond.instanceMethod yX7_night ∈ G0 := gm_t3 (List.mem_of_getElem? (i := 169) rfl) rfl
theorem gwt3_170 : Cond.selects RX7 yX7_night yX7_night ∈ G0 := gm_t3 (List.mem_of_getElem? (i := 170) rfl) rfl
theorem gwt3_171 : Cond.code yX7_night cX7_night 2 (some .int) ∈ G0 := gm_t3 (List.mem_of_getElem? (i := 171) rfl) rfl
theorem gwt3_176 : Cond.methodLink RL 86 yX7_lots ∈ G0 := gm_t3 (List.mem_of_getElem? (i := 176) rfl) rfl
theorem gwt3_177 : Cond.instanceMethod yX7_lots ∈ G0 := gm_t3 (List.mem_of_getElem? (i := 177) rfl) rfl
theorem gwt3_178 : Cond.selects RX7 yX7_lots yX7_lots ∈ G0 := gm_t3 (List.mem_of_getElem? (i := 178) rfl) rfl
theorem gwt3_179 : Cond.code yX7_lots cX7_lots 2 (some .int) ∈ G0 := gm_t3 (List.mem_of_getElem? (i := 179) rfl) rfl
theorem gwt3_180 : Cond.methodLink RL 90 yX7_seed ∈ G0 := gm_t3 (List.mem_of_getElem? (i := 180) rfl) rfl
theorem gwt3_181 : Cond.instanceMethod yX7_seed ∈ G0 := gm_t3 (List.mem_of_getElem? (i := 181) rfl) rfl
theorem gwt3_182 : Cond.selects RX7 yX7_seed yX7_seed ∈ G0 := gm_t3 (List.mem_of_getElem? (i := 182) rfl) rfl
theorem gwt3_183 : Cond.code yX7_seed cX7_seed 3 (some .int) ∈ G0 := gm_t3 (List.mem_of_getElem? (i := 183) rfl) rfl
theorem gwt3_184 : Cond.methodLink RL 94 yX7_behind ∈ G0 := gm_t3 (List.mem_of_getElem? (i := 184) rfl) rfl
theorem gwt3_185 : Cond.instanceMethod yX7_behind ∈ G0 := gm_t3 (List.mem_of_getElem? (i := 185) rfl) rfl
theorem gwt3_186 : Cond.selects RX7 yX7_behind yX7_behind ∈ G0 := gm_t3 (List.mem_of_getElem? (i := 186) rfl) rfl
theorem gwt3_187 : Cond.code yX7_behind cX7_behind 5 (some .int) ∈ G0 := gm_t3 (List.mem_of_getElem? (i := 187) rfl) rfl
theorem gwt3_213 : Cond.methodLink RL 98 yX7_when ∈ G0 := gm_t3 (List.mem_of_getElem? (i := 213) rfl) rfl
theorem gwt3_214 : Cond.instanceMethod yX7_when ∈ G0 := gm_t3 (List.mem_of_getElem? (i := 214) rfl) rfl
theorem gwt3_215 : Cond.selects RX7 yX7_when yX7_when ∈ G0 := gm_t3 (List.mem_of_getElem? (i := 215) rfl) rfl
theorem gwt3_216 : Cond.code yX7_when cX7_when 3 (some .int) ∈ G0 := gm_t3 (List.mem_of_getElem? (i := 216) rfl) rfl
theorem gwt3_239 : Cond.methodLink RL 102 yX7_darkest ∈ G0 := gm_t3 (List.mem_of_getElem? (i := 239) rfl) rfl
theorem gwt3_72 : Cond.methodLink RL 70 yX7_rocks ∈ G0 := gm_t3 (List.mem_of_getElem? (i := 72) rfl) rfl
theorem gwt3_73 : Cond.instanceMethod yX7_rocks ∈ G0 := gm_t3 (List.mem_of_getElem? (i := 73) rfl) rfl
theorem gwt3_74 : Cond.selects RX7 yX7_rocks yX7_rocks ∈ G0 := gm_t3 (List.mem_of_getElem? (i := 74) rfl) rfl
theorem gwt3_75 : Cond.code yX7_rocks cX7_rocks 4 (some .int) ∈ G0 := gm_t3 (List.mem_of_getElem? (i := 75) rfl) rfl
theorem gwt4_0 : Cond.instanceMethod yX7_darkest ∈ G0 := gm_t4 (List.mem_of_getElem? (i := 0) rfl) rfl
theorem gwt4_1 : Cond.selects RX7 yX7_darkest yX7_darkest ∈ G0 := gm_t4 (List.mem_of_getElem? (i := 1) rfl) rfl
theorem gwt4_11 : Cond.methodLink RL 106 yX7_holds ∈ G0 := gm_t4 (List.mem_of_getElem? (i := 11) rfl) rfl
theorem gwt4_116 : Cond.methodLink RL 146 yX7_ship ∈ G0 := gm_t4 (List.mem_of_getElem? (i := 116) rfl) rfl
theorem gwt4_117 : Cond.instanceMethod yX7_ship ∈ G0 := gm_t4 (List.mem_of_getElem? (i := 117) rfl) rfl
theorem gwt4_118 : Cond.selects RX7 yX7_ship yX7_ship ∈ G0 := gm_t4 (List.mem_of_getElem? (i := 118) rfl) rfl
theorem gwt4_119 : Cond.code yX7_ship cX7_ship 5 (some .int) ∈ G0 := gm_t4 (List.mem_of_getElem? (i := 119) rfl) rfl
theorem gwt4_12 : Cond.instanceMethod yX7_holds ∈ G0 := gm_t4 (List.mem_of_getElem? (i := 12) rfl) rfl
theorem gwt4_121 : Cond.methodLink RL 150 yX7_image ∈ G0 := gm_t4 (List.mem_of_getElem? (i := 121) rfl) rfl
theorem gwt4_122 : Cond.instanceMethod yX7_image ∈ G0 := gm_t4 (List.mem_of_getElem? (i := 122) rfl) rfl
theorem gwt4_123 : Cond.selects RX7 yX7_image yX7_image ∈ G0 := gm_t4 (List.mem_of_getElem? (i := 123) rfl) rfl
theorem gwt4_124 : Cond.code yX7_image cX7_image 1 (some .int) ∈ G0 := gm_t4 (List.mem_of_getElem? (i := 124) rfl) rfl
theorem gwt4_13 : Cond.selects RX7 yX7_holds yX7_holds ∈ G0 := gm_t4 (List.mem_of_getElem? (i := 13) rfl) rfl
theorem gwt4_136 : Cond.methodLink RL 154 yX7_restore ∈ G0 := gm_t4 (List.mem_of_getElem? (i := 136) rfl) rfl
theorem gwt4_137 : Cond.instanceMethod yX7_restore ∈ G0 := gm_t4 (List.mem_of_getElem? (i := 137) rfl) rfl
theorem gwt4_138 : Cond.selects RX7 yX7_restore yX7_restore ∈ G0 := gm_t4 (List.mem_of_getElem? (i := 138) rfl) rfl
theorem gwt4_139 : Cond.code yX7_restore cX7_restore 1 (some .int) ∈ G0 := gm_t4 (List.mem_of_getElem? (i := 139) rfl) rfl
theorem gwt4_14 : Cond.code yX7_holds cX7_holds 2 (some .int) ∈ G0 := gm_t4 (List.mem_of_getElem? (i := 14) rfl) rfl
theorem gwt4_140 : Cond.methodLink RL 158 yX7_delays ∈ G0 := gm_t4 (List.mem_of_getElem? (i := 140) rfl) rfl
theorem gwt4_141 : Cond.instanceMethod yX7_delays ∈ G0 := gm_t4 (List.mem_of_getElem? (i := 141) rfl) rfl
theorem gwt4_142 : Cond.selects RX7 yX7_delays yX7_delays ∈ G0 := gm_t4 (List.mem_of_getElem? (i := 142) rfl) rfl
theorem gwt4_143 : Cond.code yX7_delays cX7_delays 10 (some .int) ∈ G0 := gm_t4 (List.mem_of_getElem? (i := 143) rfl) rfl
theorem gwt4_153 : Cond.methodLink RL 162 yX7_film ∈ G0 := gm_t4 (List.mem_of_getElem? (i := 153) rfl) rfl
theorem gwt4_154 : Cond.instanceMethod yX7_film ∈ G0 := gm_t4 (List.mem_of_getElem? (i := 154) rfl) rfl
theorem gwt4_155 : Cond.selects RX7 yX7_film yX7_film ∈ G0 := gm_t4 (List.mem_of_getElem? (i := 155) rfl) rfl
theorem gwt4_156 : Cond.code yX7_film cX7_film 6 (some .int) ∈ G0 := gm_t4 (List.mem_of_getElem? (i := 156) rfl) rfl
theorem gwt4_157 : Cond.methodLink RL 166 yX7_seen ∈ G0 := gm_t4 (List.mem_of_getElem? (i := 157) rfl) rfl
theorem gwt4_158 : Cond.instanceMethod yX7_seen ∈ G0 := gm_t4 (List.mem_of_getElem? (i := 158) rfl) rfl
theorem gwt4_159 : Cond.selects RX7 yX7_seen yX7_seen ∈ G0 := gm_t4 (List.mem_of_getElem? (i := 159) rfl) rfl
theorem gwt4_160 : Cond.code yX7_seen cX7_seen 6 (some .int) ∈ G0 := gm_t4 (List.mem_of_getElem? (i := 160) rfl) rfl
theorem gwt4_165 : Cond.methodLink RL 170 yX7_sheet ∈ G0 := gm_t4 (List.mem_of_getElem? (i := 165) rfl) rfl
theorem gwt4_166 : Cond.instanceMethod yX7_sheet ∈ G0 := gm_t4 (List.mem_of_getElem? (i := 166) rfl) rfl
theorem gwt4_167 : Cond.selects RX7 yX7_sheet yX7_sheet ∈ G0 := gm_t4 (List.mem_of_getElem? (i := 167) rfl) rfl
theorem gwt4_168 : Cond.code yX7_sheet cX7_sheet 4 (some .int) ∈ G0 := gm_t4 (List.mem_of_getElem? (i := 168) rfl) rfl
theorem gwt4_176 : Cond.methodLink RL 174 yX7_drop ∈ G0 := gm_t4 (List.mem_of_getElem? (i := 176) rfl) rfl
theorem gwt4_177 : Cond.instanceMethod yX7_drop ∈ G0 := gm_t4 (List.mem_of_getElem? (i := 177) rfl) rfl
theorem gwt4_178 : Cond.selects RX7 yX7_drop yX7_drop ∈ G0 := gm_t4 (List.mem_of_getElem? (i := 178) rfl) rfl
theorem gwt4_179 : Cond.code yX7_drop cX7_drop 2 (some .int) ∈ G0 := gm_t4 (List.mem_of_getElem? (i := 179) rfl) rfl
theorem gwt4_180 : Cond.methodLink RL 180 yX7_item ∈ G0 := gm_t4 (List.mem_of_getElem? (i := 180) rfl) rfl
theorem gwt4_181 : Cond.instanceMethod yX7_item ∈ G0 := gm_t4 (List.mem_of_getElem? (i := 181) rfl) rfl
theorem gwt4_182 : Cond.selects RX7 yX7_item yX7_item ∈ G0 := gm_t4 (List.mem_of_getElem? (i := 182) rfl) rfl
theorem gwt4_183 : Cond.code yX7_item cX7_item 7 (some .int) ∈ G0 := gm_t4 (List.mem_of_getElem? (i := 183) rfl) rfl
theorem gwt4_188 : Cond.methodLink RL 185 yX7_copy ∈ G0 := gm_t4 (List.mem_of_getElem? (i := 188) rfl) rfl
theorem gwt4_189 : Cond.instanceMethod yX7_copy ∈ G0 := gm_t4 (List.mem_of_getElem? (i := 189) rfl) rfl
theorem gwt4_19 : Cond.methodLink RL 110 yX7_bears ∈ G0 := gm_t4 (List.mem_of_getElem? (i := 19) rfl) rfl
theorem gwt4_190 : Cond.selects RX7 yX7_copy yX7_copy ∈ G0 := gm_t4 (List.mem_of_getElem? (i := 190) rfl) rfl
theorem gwt4_191 : Cond.code yX7_copy cX7_copy 8 (some .int) ∈ G0 := gm_t4 (List.mem_of_getElem? (i := 191) rfl) rfl
theorem gwt4_2 : Cond.code yX7_darkest cX7_darkest 2 (some .int) ∈ G0 := gm_t4 (List.mem_of_getElem? (i := 2) rfl) rfl
theorem gwt4_20 : Cond.instanceMethod yX7_bears ∈ G0 := gm_t4 (List.mem_of_getElem? (i := 20) rfl) rfl
theorem gwt4_21 : Cond.selects RX7 yX7_bears yX7_bears ∈ G0 := gm_t4 (List.mem_of_getElem? (i := 21) rfl) rfl
theorem gwt4_22 : Cond.code yX7_bears cX7_bears 2 (some .int) ∈ G0 := gm_t4 (List.mem_of_getElem? (i := 22) rfl) rfl
theorem gwt4_32 : Cond.methodLink RL 114 yX7_worst ∈ G0 := gm_t4 (List.mem_of_getElem? (i := 32) rfl) rfl
theorem gwt4_33 : Cond.instanceMethod yX7_worst ∈ G0 := gm_t4 (List.mem_of_getElem? (i := 33) rfl) rfl
theorem gwt4_34 : Cond.selects RX7 yX7_worst yX7_worst ∈ G0 := gm_t4 (List.mem_of_getElem? (i := 34) rfl) rfl
theorem gwt4_35 : Cond.code yX7_worst cX7_worst 2 (some .int) ∈ G0 := gm_t4 (List.mem_of_getElem? (i := 35) rfl) rfl
theorem gwt4_40 : Cond.methodLink RL 118 yX7_least ∈ G0 := gm_t4 (List.mem_of_getElem? (i := 40) rfl) rfl
theorem gwt4_41 : Cond.instanceMethod yX7_least ∈ G0 := gm_t4 (List.mem_of_getElem? (i := 41) rfl) rfl
theorem gwt4_42 : Cond.selects RX7 yX7_least yX7_least ∈ G0 := gm_t4 (List.mem_of_getElem? (i := 42) rfl) rfl
theorem gwt4_43 : Cond.code yX7_least cX7_least 3 (some .int) ∈ G0 := gm_t4 (List.mem_of_getElem? (i := 43) rfl) rfl
theorem gwt4_54 : Cond.methodLink RL 122 yX7_spare ∈ G0 := gm_t4 (List.mem_of_getElem? (i := 54) rfl) rfl
theorem gwt4_55 : Cond.instanceMethod yX7_spare ∈ G0 := gm_t4 (List.mem_of_getElem? (i := 55) rfl) rfl
theorem gwt4_56 : Cond.selects RX7 yX7_spare yX7_spare ∈ G0 := gm_t4 (List.mem_of_getElem? (i := 56) rfl) rfl
theorem gwt4_57 : Cond.code yX7_spare cX7_spare 1 (some .int) ∈ G0 := gm_t4 (List.mem_of_getElem? (i := 57) rfl) rfl
theorem gwt4_67 : Cond.methodLink RL 126 yX7_log ∈ G0 := gm_t4 (List.mem_of_getElem? (i := 67) rfl) rfl
theorem gwt4_68 : Cond.instanceMethod yX7_log ∈ G0 := gm_t4 (List.mem_of_getElem? (i := 68) rfl) rfl
theorem gwt4_69 : Cond.selects RX7 yX7_log yX7_log ∈ G0 := gm_t4 (List.mem_of_getElem? (i := 69) rfl) rfl
theorem gwt4_70 : Cond.code yX7_log cX7_log 4 (some .int) ∈ G0 := gm_t4 (List.mem_of_getElem? (i := 70) rfl) rfl
theorem gwt4_75 : Cond.methodLink RL 130 yX7_burn ∈ G0 := gm_t4 (List.mem_of_getElem? (i := 75) rfl) rfl
theorem gwt4_76 : Cond.instanceMethod yX7_burn ∈ G0 := gm_t4 (List.mem_of_getElem? (i := 76) rfl) rfl
theorem gwt4_77 : Cond.selects RX7 yX7_burn yX7_burn ∈ G0 := gm_t4 (List.mem_of_getElem? (i := 77) rfl) rfl
theorem gwt4_78 : Cond.code yX7_burn cX7_burn 2 (some .int) ∈ G0 := gm_t4 (List.mem_of_getElem? (i := 78) rfl) rfl
theorem gwt4_79 : Cond.methodLink RL 134 yX7_sure ∈ G0 := gm_t4 (List.mem_of_getElem? (i := 79) rfl) rfl
theorem gwt4_80 : Cond.instanceMethod yX7_sure ∈ G0 := gm_t4 (List.mem_of_getElem? (i := 80) rfl) rfl
theorem gwt4_81 : Cond.selects RX7 yX7_sure yX7_sure ∈ G0 := gm_t4 (List.mem_of_getElem? (i := 81) rfl) rfl
theorem gwt4_82 : Cond.code yX7_sure cX7_sure 1 (some .int) ∈ G0 := gm_t4 (List.mem_of_getElem? (i := 82) rfl) rfl
theorem gwt4_87 : Cond.methodLink RL 138 yX7_fits ∈ G0 := gm_t4 (List.mem_of_getElem? (i := 87) rfl) rfl
theorem gwt4_88 : Cond.instanceMethod yX7_fits ∈ G0 := gm_t4 (List.mem_of_getElem? (i := 88) rfl) rfl
theorem gwt4_89 : Cond.selects RX7 yX7_fits yX7_fits ∈ G0 := gm_t4 (List.mem_of_getElem? (i := 89) rfl) rfl
theorem gwt4_90 : Cond.code yX7_fits cX7_fits 4 (some .int) ∈ G0 := gm_t4 (List.mem_of_getElem? (i := 90) rfl) rfl
theorem gwt4_95 : Cond.methodLink RL 142 yX7_ask ∈ G0 := gm_t4 (List.mem_of_getElem? (i := 95) rfl) rfl
theorem gwt4_96 : Cond.instanceMethod yX7_ask ∈ G0 := gm_t4 (List.mem_of_getElem? (i := 96) rfl) rfl
theorem gwt4_97 : Cond.selects RX7 yX7_ask yX7_ask ∈ G0 := gm_t4 (List.mem_of_getElem? (i := 97) rfl) rfl
theorem gwt4_98 : Cond.code yX7_ask cX7_ask 1 (some .int) ∈ G0 := gm_t4 (List.mem_of_getElem? (i := 98) rfl) rfl
theorem gwt5_100 : Cond.methodLink RL 65 yX8_type ∈ G0 := gm_t5 (List.mem_of_getElem? (i := 100) rfl) rfl
theorem gwt5_101 : Cond.instanceMethod yX8_type ∈ G0 := gm_t5 (List.mem_of_getElem? (i := 101) rfl) rfl
theorem gwt5_102 : Cond.selects RX8 yX8_type yX8_type ∈ G0 := gm_t5 (List.mem_of_getElem? (i := 102) rfl) rfl
theorem gwt5_103 : Cond.code yX8_type cX8_type 2 (some .int) ∈ G0 := gm_t5 (List.mem_of_getElem? (i := 103) rfl) rfl
theorem gwt5_106 : Cond.methodLink RL 69 yX8_laws ∈ G0 := gm_t5 (List.mem_of_getElem? (i := 106) rfl) rfl
theorem gwt5_107 : Cond.instanceMethod yX8_laws ∈ G0 := gm_t5 (List.mem_of_getElem? (i := 107) rfl) rfl
theorem gwt5_108 : Cond.selects RX8 yX8_laws yX8_laws ∈ G0 := gm_t5 (List.mem_of_getElem? (i := 108) rfl) rfl
theorem gwt5_109 : Cond.code yX8_laws cX8_laws 2 (some .int) ∈ G0 := gm_t5 (List.mem_of_getElem? (i := 109) rfl) rfl
theorem gwt5_144 : Cond.methodLink RL 73 yX8_rocks ∈ G0 := gm_t5 (List.mem_of_getElem? (i := 144) rfl) rfl
theorem gwt5_145 : Cond.instanceMethod yX8_rocks ∈ G0 := gm_t5 (List.mem_of_getElem? (i := 145) rfl) rfl
theorem gwt5_146 : Cond.selects RX8 yX8_rocks yX8_rocks ∈ G0 := gm_t5 (List.mem_of_getElem? (i := 146) rfl) rfl
theorem gwt5_147 : Cond.code yX8_rocks cX8_rocks 2 (some .int) ∈ G0 := gm_t5 (List.mem_of_getElem? (i := 147) rfl) rfl
theorem gwt5_148 : Cond.methodLink RL 77 yX8_count ∈ G0 := gm_t5 (List.mem_of_getElem? (i := 148) rfl) rfl
theorem gwt5_149 : Cond.instanceMethod yX8_count ∈ G0 := gm_t5 (List.mem_of_getElem? (i := 149) rfl) rfl
theorem gwt5_150 : Cond.selects RX8 yX8_count yX8_count ∈ G0 := gm_t5 (List.mem_of_getElem? (i := 150) rfl) rfl
theorem gwt5_151 : Cond.code yX8_count cX8_count 2 (some .int) ∈ G0 := gm_t5 (List.mem_of_getElem? (i := 151) rfl) rfl
theorem gwt5_162 : Cond.methodLink RL 81 yX8_minute ∈ G0 := gm_t5 (List.mem_of_getElem? (i := 162) rfl) rfl
theorem gwt5_163 : Cond.instanceMethod yX8_minute ∈ G0 := gm_t5 (List.mem_of_getElem? (i := 163) rfl) rfl
theorem gwt5_164 : Cond.selects RX8 yX8_minute yX8_minute ∈ G0 := gm_t5 (List.mem_of_getElem? (i := 164) rfl) rfl
theorem gwt5_165 : Cond.code yX8_minute cX8_minute 1 (some .int) ∈ G0 := gm_t5 (List.mem_of_getElem? (i := 165) rfl) rfl
theorem gwt5_193 : Cond.methodLink RL 85 yX8_night ∈ G0 := gm_t5 (List.mem_of_getElem? (i := 193) rfl) rfl
theorem gwt5_194 : Cond.instanceMethod yX8_night ∈ G0 := gm_t5 (List.mem_of_getElem? (i := 194) rfl) rfl
theorem gwt5_195 : Cond.selects RX8 yX8_night yX8_night ∈ G0 := gm_t5 (List.mem_of_getElem? (i := 195) rfl) rfl
theorem gwt5_196 : Cond.code yX8_night cX8_night 2 (some .int) ∈ G0 := gm_t5 (List.mem_of_getElem? (i := 196) rfl) rfl
theorem gwt5_202 : Cond.methodLink RL 89 yX8_lots ∈ G0 := gm_t5 (List.mem_of_getElem? (i := 202) rfl) rfl
theorem gwt5_203 : Cond.instanceMethod yX8_lots ∈ G0 := gm_t5 (List.mem_of_getElem? (i := 203) rfl) rfl
theorem gwt5_204 : Cond.selects RX8 yX8_lots yX8_lots ∈ G0 := gm_t5 (List.mem_of_getElem? (i := 204) rfl) rfl
theorem gwt5_205 : Cond.code yX8_lots cX8_lots 3 (some .int) ∈ G0 := gm_t5 (List.mem_of_getElem? (i := 205) rfl) rfl
theorem gwt5_206 : Cond.methodLink RL 93 yX8_seed ∈ G0 := gm_t5 (List.mem_of_getElem? (i := 206) rfl) rfl
theorem gwt5_207 : Cond.instanceMethod yX8_seed ∈ G0 := gm_t5 (List.mem_of_getElem? (i := 207) rfl) rfl
theorem gwt5_208 : Cond.selects RX8 yX8_seed yX8_seed ∈ G0 := gm_t5 (List.mem_of_getElem? (i := 208) rfl) rfl
theorem gwt5_209 : Cond.code yX8_seed cX8_seed 3 (some .int) ∈ G0 := gm_t5 (List.mem_of_getElem? (i := 209) rfl) rfl
theorem gwt5_210 : Cond.methodLink RL 97 yX8_behind ∈ G0 := gm_t5 (List.mem_of_getElem? (i := 210) rfl) rfl
theorem gwt5_211 : Cond.instanceMethod yX8_behind ∈ G0 := gm_t5 (List.mem_of_getElem? (i := 211) rfl) rfl
theorem gwt5_212 : Cond.selects RX8 yX8_behind yX8_behind ∈ G0 := gm_t5 (List.mem_of_getElem? (i := 212) rfl) rfl
theorem gwt5_213 : Cond.code yX8_behind cX8_behind 4 (some .int) ∈ G0 := gm_t5 (List.mem_of_getElem? (i := 213) rfl) rfl
theorem gwt5_221 : Cond.methodLink RL 101 yX8_when ∈ G0 := gm_t5 (List.mem_of_getElem? (i := 221) rfl) rfl
theorem gwt5_222 : Cond.instanceMethod yX8_when ∈ G0 := gm_t5 (List.mem_of_getElem? (i := 222) rfl) rfl
theorem gwt5_223 : Cond.selects RX8 yX8_when yX8_when ∈ G0 := gm_t5 (List.mem_of_getElem? (i := 223) rfl) rfl
theorem gwt5_224 : Cond.code yX8_when cX8_when 3 (some .int) ∈ G0 := gm_t5 (List.mem_of_getElem? (i := 224) rfl) rfl
theorem gwt5_229 : Cond.methodLink RL 105 yX8_darkest ∈ G0 := gm_t5 (List.mem_of_getElem? (i := 229) rfl) rfl
theorem gwt5_23 : Cond.methodLink RL 17 yX8_rock ∈ G0 := gm_t5 (List.mem_of_getElem? (i := 23) rfl) rfl
theorem gwt5_230 : Cond.instanceMethod yX8_darkest ∈ G0 := gm_t5 (List.mem_of_getElem? (i := 230) rfl) rfl
theorem gwt5_231 : Cond.selects RX8 yX8_darkest yX8_darkest ∈ G0 := gm_t5 (List.mem_of_getElem? (i := 231) rfl) rfl
theorem gwt5_232 : Cond.code yX8_darkest cX8_darkest 6 (some .int) ∈ G0 := gm_t5 (List.mem_of_getElem? (i := 232) rfl) rfl
theorem gwt5_233 : Cond.methodLink RL 109 yX8_holds ∈ G0 := gm_t5 (List.mem_of_getElem? (i := 233) rfl) rfl
theorem gwt5_234 : Cond.instanceMethod yX8_holds ∈ G0 := gm_t5 (List.mem_of_getElem? (i := 234) rfl) rfl
theorem gwt5_235 : Cond.selects RX8 yX8_holds yX8_holds ∈ G0 := gm_t5 (List.mem_of_getElem? (i := 235) rfl) rfl
theorem gwt5_236 : Cond.code yX8_holds cX8_holds 2 (some .int) ∈ G0 := gm_t5 (List.mem_of_getElem? (i := 236) rfl) rfl
theorem gwt5_24 : Cond.instanceMethod yX8_rock ∈ G0 := gm_t5 (List.mem_of_getElem? (i := 24) rfl) rfl
theorem gwt5_25 : Cond.selects RX8 yX8_rock yX8_rock ∈ G0 := gm_t5 (List.mem_of_getElem? (i := 25) rfl) rfl
theorem gwt5_26 : Cond.code yX8_rock cX8_rock 3 (some .int) ∈ G0 := gm_t5 (List.mem_of_getElem? (i := 26) rfl) rfl
theorem gwt5_37 : Cond.methodLink RL 22 yX8_out ∈ G0 := gm_t5 (List.mem_of_getElem? (i := 37) rfl) rfl
theorem gwt5_38 : Cond.instanceMethod yX8_out ∈ G0 := gm_t5 (List.mem_of_getElem? (i := 38) rfl) rfl
theorem gwt5_39 : Cond.selects RX8 yX8_out yX8_out ∈ G0 := gm_t5 (List.mem_of_getElem? (i := 39) rfl) rfl
theorem gwt5_40 : Cond.code yX8_out cX8_out 3 (some .int) ∈ G0 := gm_t5 (List.mem_of_getElem? (i := 40) rfl) rfl
theorem gwt5_41 : Cond.methodLink RL 26 yX8_turn ∈ G0 := gm_t5 (List.mem_of_getElem? (i := 41) rfl) rfl
theorem gwt5_42 : Cond.instanceMethod yX8_turn ∈ G0 := gm_t5 (List.mem_of_getElem? (i := 42) rfl) rfl
theorem gwt5_43 : Cond.selects RX8 yX8_turn yX8_turn ∈ G0 := gm_t5 (List.mem_of_getElem? (i := 43) rfl) rfl
theorem gwt5_44 : Cond.code yX8_turn cX8_turn 4 (some .int) ∈ G0 := gm_t5 (List.mem_of_getElem? (i := 44) rfl) rfl
theorem gwt5_49 : Cond.methodLink RL 31 yX8_dark ∈ G0 := gm_t5 (List.mem_of_getElem? (i := 49) rfl) rfl
theorem gwt5_50 : Cond.instanceMethod yX8_dark ∈ G0 := gm_t5 (List.mem_of_getElem? (i := 50) rfl) rfl
theorem gwt5_51 : Cond.selects RX8 yX8_dark yX8_dark ∈ G0 := gm_t5 (List.mem_of_getElem? (i := 51) rfl) rfl
theorem gwt5_52 : Cond.code yX8_dark cX8_dark 4 (some .int) ∈ G0 := gm_t5 (List.mem_of_getElem? (i := 52) rfl) rfl
theorem gwt5_58 : Cond.methodLink RL 35 yX8_delay ∈ G0 := gm_t5 (List.mem_of_getElem? (i := 58) rfl) rfl
theorem gwt5_59 : Cond.instanceMethod yX8_delay ∈ G0 := gm_t5 (List.mem_of_getElem? (i := 59) rfl) rfl
theorem gwt5_60 : Cond.selects RX8 yX8_delay yX8_delay ∈ G0 := gm_t5 (List.mem_of_getElem? (i := 60) rfl) rfl
theorem gwt5_61 : Cond.code yX8_delay cX8_delay 5 (some .int) ∈ G0 := gm_t5 (List.mem_of_getElem? (i := 61) rfl) rfl
theorem gwt5_63 : Cond.methodLink RL 39 yX8_told ∈ G0 := gm_t5 (List.mem_of_getElem? (i := 63) rfl) rfl
theorem gwt5_64 : Cond.instanceMethod yX8_told ∈ G0 := gm_t5 (List.mem_of_getElem? (i := 64) rfl) rfl
theorem gwt5_65 : Cond.selects RX8 yX8_told yX8_told ∈ G0 := gm_t5 (List.mem_of_getElem? (i := 65) rfl) rfl
theorem gwt5_66 : Cond.code yX8_told cX8_told 3 (some .int) ∈ G0 := gm_t5 (List.mem_of_getElem? (i := 66) rfl) rfl
theorem gwt5_71 : Cond.methodLink RL 43 yX8_heard ∈ G0 := gm_t5 (List.mem_of_getElem? (i := 71) rfl) rfl
theorem gwt5_72 : Cond.instanceMethod yX8_heard ∈ G0 := gm_t5 (List.mem_of_getElem? (i := 72) rfl) rfl
theorem gwt5_73 : Cond.selects RX8 yX8_heard yX8_heard ∈ G0 := gm_t5 (List.mem_of_getElem? (i := 73) rfl) rfl
theorem gwt5_74 : Cond.code yX8_heard cX8_heard 3 (some .int) ∈ G0 := gm_t5 (List.mem_of_getElem? (i := 74) rfl) rfl
theorem gwt5_78 : Cond.methodLink RL 47 yX8_counts ∈ G0 := gm_t5 (List.mem_of_getElem? (i := 78) rfl) rfl
theorem gwt5_79 : Cond.instanceMethod yX8_counts ∈ G0 := gm_t5 (List.mem_of_getElem? (i := 79) rfl) rfl
theorem gwt5_80 : Cond.selects RX8 yX8_counts yX8_counts ∈ G0 := gm_t5 (List.mem_of_getElem? (i := 80) rfl) rfl
theorem gwt5_81 : Cond.code yX8_counts cX8_counts 3 (some .int) ∈ G0 := gm_t5 (List.mem_of_getElem? (i := 81) rfl) rfl
theorem gwt5_86 : Cond.methodLink RL 51 yX8_due ∈ G0 := gm_t5 (List.mem_of_getElem? (i := 86) rfl) rfl
theorem gwt5_87 : Cond.instanceMethod yX8_due ∈ G0 := gm_t5 (List.mem_of_getElem? (i := 87) rfl) rfl
theorem gwt5_88 : Cond.selects RX8 yX8_due yX8_due ∈ G0 := gm_t5 (List.mem_of_getElem? (i := 88) rfl) rfl
theorem gwt5_89 : Cond.code yX8_due cX8_due 5 (some .int) ∈ G0 := gm_t5 (List.mem_of_getElem? (i := 89) rfl) rfl
theorem gwt5_91 : Cond.methodLink RL 55 yX8_rule ∈ G0 := gm_t5 (List.mem_of_getElem? (i := 91) rfl) rfl
theorem gwt5_92 : Cond.instanceMethod yX8_rule ∈ G0 := gm_t5 (List.mem_of_getElem? (i := 92) rfl) rfl
theorem gwt5_93 : Cond.selects RX8 yX8_rule yX8_rule ∈ G0 := gm_t5 (List.mem_of_getElem? (i := 93) rfl) rfl
theorem gwt5_94 : Cond.code yX8_rule cX8_rule 3 (some .int) ∈ G0 := gm_t5 (List.mem_of_getElem? (i := 94) rfl) rfl
theorem gwt5_96 : Cond.methodLink RL 60 yX8_add ∈ G0 := gm_t5 (List.mem_of_getElem? (i := 96) rfl) rfl
theorem gwt5_97 : Cond.instanceMethod yX8_add ∈ G0 := gm_t5 (List.mem_of_getElem? (i := 97) rfl) rfl
theorem gwt5_98 : Cond.selects RX8 yX8_add yX8_add ∈ G0 := gm_t5 (List.mem_of_getElem? (i := 98) rfl) rfl
theorem gwt5_99 : Cond.code yX8_add cX8_add 6 (some .int) ∈ G0 := gm_t5 (List.mem_of_getElem? (i := 99) rfl) rfl
theorem gwt6_1 : Cond.methodLink RL 113 yX8_bears ∈ G0 := gm_t6 (List.mem_of_getElem? (i := 1) rfl) rfl
theorem gwt6_100 : Cond.code yX8_item cX8_item 7 (some .int) ∈ G0 := gm_t6 (List.mem_of_getElem? (i := 100) rfl) rfl
theorem gwt6_104 : Cond.methodLink RL 189 yX8_copy ∈ G0 := gm_t6 (List.mem_of_getElem? (i := 104) rfl) rfl
theorem gwt6_105 : Cond.instanceMethod yX8_copy ∈ G0 := gm_t6 (List.mem_of_getElem? (i := 105) rfl) rfl
theorem gwt6_106 : Cond.selects RX8 yX8_copy yX8_copy ∈ G0 := gm_t6 (List.mem_of_getElem? (i := 106) rfl) rfl
theorem gwt6_107 : Cond.code yX8_copy cX8_copy 7 (some .int) ∈ G0 := gm_t6 (List.mem_of_getElem? (i := 107) rfl) rfl
theorem gwt6_108 : Cond.constantLong RL 178 (4294967295) ∈ G0 := gm_t6 (List.mem_of_getElem? (i := 108) rfl) rfl
theorem gwt6_12 : Cond.methodLink RL 117 yX8_worst ∈ G0 := gm_t6 (List.mem_of_getElem? (i := 12) rfl) rfl
theorem gwt6_13 : Cond.instanceMethod yX8_worst ∈ G0 := gm_t6 (List.mem_of_getElem? (i := 13) rfl) rfl
theorem gwt6_14 : Cond.selects RX8 yX8_worst yX8_worst ∈ G0 := gm_t6 (List.mem_of_getElem? (i := 14) rfl) rfl
theorem gwt6_15 : Cond.code yX8_worst cX8_worst 7 (some .int) ∈ G0 := gm_t6 (List.mem_of_getElem? (i := 15) rfl) rfl
theorem gwt6_16 : Cond.methodLink RL 121 yX8_least ∈ G0 := gm_t6 (List.mem_of_getElem? (i := 16) rfl) rfl
theorem gwt6_17 : Cond.instanceMethod yX8_least ∈ G0 := gm_t6 (List.mem_of_getElem? (i := 17) rfl) rfl
theorem gwt6_18 : Cond.selects RX8 yX8_least yX8_least ∈ G0 := gm_t6 (List.mem_of_getElem? (i := 18) rfl) rfl
theorem gwt6_19 : Cond.code yX8_least cX8_least 6 (some .int) ∈ G0 := gm_t6 (List.mem_of_getElem? (i := 19) rfl) rfl
theorem gwt6_2 : Cond.instanceMethod yX8_bears ∈ G0 := gm_t6 (List.mem_of_getElem? (i := 2) rfl) rfl
theorem gwt6_20 : Cond.methodLink RL 125 yX8_spare ∈ G0 := gm_t6 (List.mem_of_getElem? (i := 20) rfl) rfl
theorem gwt6_21 : Cond.instanceMethod yX8_spare ∈ G0 := gm_t6 (List.mem_of_getElem? (i := 21) rfl) rfl
theorem gwt6_22 : Cond.selects RX8 yX8_spare yX8_spare ∈ G0 := gm_t6 (List.mem_of_getElem? (i := 22) rfl) rfl
theorem gwt6_23 : Cond.code yX8_spare cX8_spare 5 (some .int) ∈ G0 := gm_t6 (List.mem_of_getElem? (i := 23) rfl) rfl
theorem gwt6_24 : Cond.methodLink RL 129 yX8_log ∈ G0 := gm_t6 (List.mem_of_getElem? (i := 24) rfl) rfl
theorem gwt6_25 : Cond.instanceMethod yX8_log ∈ G0 := gm_t6 (List.mem_of_getElem? (i := 25) rfl) rfl
theorem gwt6_26 : Cond.selects RX8 yX8_log yX8_log ∈ G0 := gm_t6 (List.mem_of_getElem? (i := 26) rfl) rfl
theorem gwt6_27 : Cond.code yX8_log cX8_log 5 (some .int) ∈ G0 := gm_t6 (List.mem_of_getElem? (i := 27) rfl) rfl
theorem gwt6_29 : Cond.methodLink RL 133 yX8_burn ∈ G0 := gm_t6 (List.mem_of_getElem? (i := 29) rfl) rfl
theorem gwt6_3 : Cond.selects RX8 yX8_bears yX8_bears ∈ G0 := gm_t6 (List.mem_of_getElem? (i := 3) rfl) rfl
theorem gwt6_30 : Cond.instanceMethod yX8_burn ∈ G0 := gm_t6 (List.mem_of_getElem? (i := 30) rfl) rfl
theorem gwt6_31 : Cond.selects RX8 yX8_burn yX8_burn ∈ G0 := gm_t6 (List.mem_of_getElem? (i := 31) rfl) rfl
theorem gwt6_32 : Cond.code yX8_burn cX8_burn 2 (some .int) ∈ G0 := gm_t6 (List.mem_of_getElem? (i := 32) rfl) rfl
theorem gwt6_33 : Cond.methodLink RL 137 yX8_sure ∈ G0 := gm_t6 (List.mem_of_getElem? (i := 33) rfl) rfl
theorem gwt6_34 : Cond.instanceMethod yX8_sure ∈ G0 := gm_t6 (List.mem_of_getElem? (i := 34) rfl) rfl
theorem gwt6_35 : Cond.selects RX8 yX8_sure yX8_sure ∈ G0 := gm_t6 (List.mem_of_getElem? (i := 35) rfl) rfl
theorem gwt6_36 : Cond.code yX8_sure cX8_sure 1 (some .int) ∈ G0 := gm_t6 (List.mem_of_getElem? (i := 36) rfl) rfl
theorem gwt6_4 : Cond.code yX8_bears cX8_bears 2 (some .int) ∈ G0 := gm_t6 (List.mem_of_getElem? (i := 4) rfl) rfl
theorem gwt6_41 : Cond.methodLink RL 141 yX8_fits ∈ G0 := gm_t6 (List.mem_of_getElem? (i := 41) rfl) rfl
theorem gwt6_42 : Cond.instanceMethod yX8_fits ∈ G0 := gm_t6 (List.mem_of_getElem? (i := 42) rfl) rfl
theorem gwt6_43 : Cond.selects RX8 yX8_fits yX8_fits ∈ G0 := gm_t6 (List.mem_of_getElem? (i := 43) rfl) rfl
theorem gwt6_44 : Cond.code yX8_fits cX8_fits 5 (some .int) ∈ G0 := gm_t6 (List.mem_of_getElem? (i := 44) rfl) rfl
theorem gwt6_45 : Cond.methodLink RL 145 yX8_ask ∈ G0 := gm_t6 (List.mem_of_getElem? (i := 45) rfl) rfl
theorem gwt6_46 : Cond.instanceMethod yX8_ask ∈ G0 := gm_t6 (List.mem_of_getElem? (i := 46) rfl) rfl
theorem gwt6_47 : Cond.selects RX8 yX8_ask yX8_ask ∈ G0 := gm_t6 (List.mem_of_getElem? (i := 47) rfl) rfl
theorem gwt6_48 : Cond.code yX8_ask cX8_ask 6 (some .int) ∈ G0 := gm_t6 (List.mem_of_getElem? (i := 48) rfl) rfl
theorem gwt6_57 : Cond.methodLink RL 149 yX8_ship ∈ G0 := gm_t6 (List.mem_of_getElem? (i := 57) rfl) rfl
theorem gwt6_58 : Cond.instanceMethod yX8_ship ∈ G0 := gm_t6 (List.mem_of_getElem? (i := 58) rfl) rfl
theorem gwt6_59 : Cond.selects RX8 yX8_ship yX8_ship ∈ G0 := gm_t6 (List.mem_of_getElem? (i := 59) rfl) rfl
theorem gwt6_60 : Cond.code yX8_ship cX8_ship 7 (some .int) ∈ G0 := gm_t6 (List.mem_of_getElem? (i := 60) rfl) rfl
theorem gwt6_62 : Cond.methodLink RL 153 yX8_image ∈ G0 := gm_t6 (List.mem_of_getElem? (i := 62) rfl) rfl
theorem gwt6_63 : Cond.instanceMethod yX8_image ∈ G0 := gm_t6 (List.mem_of_getElem? (i := 63) rfl) rfl
theorem gwt6_64 : Cond.selects RX8 yX8_image yX8_image ∈ G0 := gm_t6 (List.mem_of_getElem? (i := 64) rfl) rfl
theorem gwt6_65 : Cond.code yX8_image cX8_image 1 (some .int) ∈ G0 := gm_t6 (List.mem_of_getElem? (i := 65) rfl) rfl
theorem gwt6_66 : Cond.methodLink RL 157 yX8_restore ∈ G0 := gm_t6 (List.mem_of_getElem? (i := 66) rfl) rfl
theorem gwt6_67 : Cond.instanceMethod yX8_restore ∈ G0 := gm_t6 (List.mem_of_getElem? (i := 67) rfl) rfl
theorem gwt6_68 : Cond.selects RX8 yX8_restore yX8_restore ∈ G0 := gm_t6 (List.mem_of_getElem? (i := 68) rfl) rfl
theorem gwt6_69 : Cond.code yX8_restore cX8_restore 1 (some .int) ∈ G0 := gm_t6 (List.mem_of_getElem? (i := 69) rfl) rfl
theorem gwt6_70 : Cond.methodLink RL 161 yX8_delays ∈ G0 := gm_t6 (List.mem_of_getElem? (i := 70) rfl) rfl
theorem gwt6_71 : Cond.instanceMethod yX8_delays ∈ G0 := gm_t6 (List.mem_of_getElem? (i := 71) rfl) rfl
theorem gwt6_72 : Cond.selects RX8 yX8_delays yX8_delays ∈ G0 := gm_t6 (List.mem_of_getElem? (i := 72) rfl) rfl
theorem gwt6_73 : Cond.code yX8_delays cX8_delays 7 (some .int) ∈ G0 := gm_t6 (List.mem_of_getElem? (i := 73) rfl) rfl
theorem gwt6_81 : Cond.methodLink RL 165 yX8_film ∈ G0 := gm_t6 (List.mem_of_getElem? (i := 81) rfl) rfl
theorem gwt6_82 : Cond.instanceMethod yX8_film ∈ G0 := gm_t6 (List.mem_of_getElem? (i := 82) rfl) rfl
theorem gwt6_83 : Cond.selects RX8 yX8_film yX8_film ∈ G0 := gm_t6 (List.mem_of_getElem? (i := 83) rfl) rfl
theorem gwt6_84 : Cond.code yX8_film cX8_film 6 (some .int) ∈ G0 := gm_t6 (List.mem_of_getElem? (i := 84) rfl) rfl
theorem gwt6_85 : Cond.methodLink RL 169 yX8_seen ∈ G0 := gm_t6 (List.mem_of_getElem? (i := 85) rfl) rfl
theorem gwt6_86 : Cond.instanceMethod yX8_seen ∈ G0 := gm_t6 (List.mem_of_getElem? (i := 86) rfl) rfl
theorem gwt6_87 : Cond.selects RX8 yX8_seen yX8_seen ∈ G0 := gm_t6 (List.mem_of_getElem? (i := 87) rfl) rfl
theorem gwt6_88 : Cond.code yX8_seen cX8_seen 8 (some .int) ∈ G0 := gm_t6 (List.mem_of_getElem? (i := 88) rfl) rfl
theorem gwt6_89 : Cond.methodLink RL 173 yX8_sheet ∈ G0 := gm_t6 (List.mem_of_getElem? (i := 89) rfl) rfl
theorem gwt6_90 : Cond.instanceMethod yX8_sheet ∈ G0 := gm_t6 (List.mem_of_getElem? (i := 90) rfl) rfl
theorem gwt6_91 : Cond.selects RX8 yX8_sheet yX8_sheet ∈ G0 := gm_t6 (List.mem_of_getElem? (i := 91) rfl) rfl
theorem gwt6_92 : Cond.code yX8_sheet cX8_sheet 5 (some .int) ∈ G0 := gm_t6 (List.mem_of_getElem? (i := 92) rfl) rfl
theorem gwt6_93 : Cond.methodLink RL 177 yX8_drop ∈ G0 := gm_t6 (List.mem_of_getElem? (i := 93) rfl) rfl
theorem gwt6_94 : Cond.instanceMethod yX8_drop ∈ G0 := gm_t6 (List.mem_of_getElem? (i := 94) rfl) rfl
theorem gwt6_95 : Cond.selects RX8 yX8_drop yX8_drop ∈ G0 := gm_t6 (List.mem_of_getElem? (i := 95) rfl) rfl
theorem gwt6_96 : Cond.code yX8_drop cX8_drop 2 (some .int) ∈ G0 := gm_t6 (List.mem_of_getElem? (i := 96) rfl) rfl
theorem gwt6_97 : Cond.methodLink RL 184 yX8_item ∈ G0 := gm_t6 (List.mem_of_getElem? (i := 97) rfl) rfl
theorem gwt6_98 : Cond.instanceMethod yX8_item ∈ G0 := gm_t6 (List.mem_of_getElem? (i := 98) rfl) rfl
theorem gwt6_99 : Cond.selects RX8 yX8_item yX8_item ∈ G0 := gm_t6 (List.mem_of_getElem? (i := 99) rfl) rfl
theorem gvL_13 : jm_gv RL 13 RX7 yX7_rock wsX7_rock 3 2 := ⟨_, _, gi_V gwt2_53 gwt2_54 gwt2_55 gwt1_1 gwt2_56, rfl, by decide +kernel⟩
theorem gvL_17 : jm_gv RL 17 RX8 yX8_rock wsX8_rock 3 2 := ⟨_, _, gi_V gwt5_23 gwt5_24 gwt5_25 gwt1_9 gwt5_26, rfl, by decide +kernel⟩
theorem gvL_18 : jm_gv RL 18 RX7 yX7_out wsX7_out 1 0 := ⟨_, _, gi_V gwt2_64 gwt2_65 gwt2_66 gwt1_1 gwt2_67, rfl, by decide +kernel⟩
theorem gvL_22 : jm_gv RL 22 RX8 yX8_out wsX8_out 3 0 := ⟨_, _, gi_V gwt5_37 gwt5_38 gwt5_39 gwt1_9 gwt5_40, rfl, by decide +kernel⟩
theorem gvL_23 : jm_gv RL 23 RX7 yX7_turn wsX7_turn 4 2 := ⟨_, _, gi_V gwt2_75 gwt2_76 gwt2_77 gwt1_1 gwt2_78, rfl, by decide +kernel⟩
theorem gvL_26 : jm_gv RL 26 RX8 yX8_turn wsX8_turn 4 2 := ⟨_, _, gi_V gwt5_41 gwt5_42 gwt5_43 gwt1_9 gwt5_44, rfl, by decide +kernel⟩
theorem gvL_27 : jm_gv RL 27 RX7 yX7_dark wsX7_dark 4 3 := ⟨_, _, gi_V gwt2_83 gwt2_84 gwt2_85 gwt1_1 gwt2_86, rfl, by decide +kernel⟩
theorem gvL_31 : jm_gv RL 31 RX8 yX8_dark wsX8_dark 4 3 := ⟨_, _, gi_V gwt5_49 gwt5_50 gwt5_51 gwt1_9 gwt5_52, rfl, by decide +kernel⟩
theorem gvL_32 : jm_gv RL 32 RX7 yX7_delay wsX7_delay 5 3 := ⟨_, _, gi_V gwt2_94 gwt2_95 gwt2_96 gwt1_1 gwt2_97, rfl, by decide +kernel⟩
theorem gvL_35 : jm_gv RL 35 RX8 yX8_delay wsX8_delay 5 3 := ⟨_, _, gi_V gwt5_58 gwt5_59 gwt5_60 gwt1_9 gwt5_61, rfl, by decide +kernel⟩
theorem gvL_36 : jm_gv RL 36 RX7 yX7_told wsX7_told 4 2 := ⟨_, _, gi_V gwt2_102 gwt2_103 gwt2_104 gwt1_1 gwt2_105, rfl, by decide +kernel⟩
theorem gvL_39 : jm_gv RL 39 RX8 yX8_told wsX8_told 3 2 := ⟨_, _, gi_V gwt5_63 gwt5_64 gwt5_65 gwt1_9 gwt5_66, rfl, by decide +kernel⟩
theorem gvL_40 : jm_gv RL 40 RX7 yX7_heard wsX7_heard 3 2 := ⟨_, _, gi_V gwt2_114 gwt2_115 gwt2_116 gwt1_1 gwt2_117, rfl, by decide +kernel⟩
theorem gvL_43 : jm_gv RL 43 RX8 yX8_heard wsX8_heard 3 2 := ⟨_, _, gi_V gwt5_71 gwt5_72 gwt5_73 gwt1_9 gwt5_74, rfl, by decide +kernel⟩
theorem gvL_44 : jm_gv RL 44 RX7 yX7_counts wsX7_counts 3 2 := ⟨_, _, gi_V gwt2_125 gwt2_126 gwt2_127 gwt1_1 gwt2_128, rfl, by decide +kernel⟩
theorem gvL_47 : jm_gv RL 47 RX8 yX8_counts wsX8_counts 3 2 := ⟨_, _, gi_V gwt5_78 gwt5_79 gwt5_80 gwt1_9 gwt5_81, rfl, by decide +kernel⟩
theorem gvL_48 : jm_gv RL 48 RX7 yX7_due wsX7_due 4 3 := ⟨_, _, gi_V gwt2_139 gwt2_140 gwt2_141 gwt1_1 gwt2_142, rfl, by decide +kernel⟩
theorem gvL_51 : jm_gv RL 51 RX8 yX8_due wsX8_due 5 3 := ⟨_, _, gi_V gwt5_86 gwt5_87 gwt5_88 gwt1_9 gwt5_89, rfl, by decide +kernel⟩
theorem gvL_52 : jm_gv RL 52 RX7 yX7_rule wsX7_rule 3 2 := ⟨_, _, gi_V gwt2_147 gwt2_148 gwt2_149 gwt1_1 gwt2_150, rfl, by decide +kernel⟩
theorem gvL_55 : jm_gv RL 55 RX8 yX8_rule wsX8_rule 3 2 := ⟨_, _, gi_V gwt5_91 gwt5_92 gwt5_93 gwt1_9 gwt5_94, rfl, by decide +kernel⟩
theorem gvL_56 : jm_gv RL 56 RX7 yX7_add wsX7_add 5 4 := ⟨_, _, gi_V gwt2_151 gwt2_152 gwt2_153 gwt1_1 gwt2_154, rfl, by decide +kernel⟩
theorem gvL_60 : jm_gv RL 60 RX8 yX8_add wsX8_add 6 4 := ⟨_, _, gi_V gwt5_96 gwt5_97 gwt5_98 gwt1_9 gwt5_99, rfl, by decide +kernel⟩
theorem gvL_61 : jm_gv RL 61 RX7 yX7_type wsX7_type 2 1 := ⟨_, _, gi_V gwt2_159 gwt2_160 gwt2_161 gwt1_1 gwt2_162, rfl, by decide +kernel⟩
theorem gvL_65 : jm_gv RL 65 RX8 yX8_type wsX8_type 2 1 := ⟨_, _, gi_V gwt5_100 gwt5_101 gwt5_102 gwt1_9 gwt5_103, rfl, by decide +kernel⟩
theorem gvL_66 : jm_gv RL 66 RX7 yX7_laws wsX7_laws 2 0 := ⟨_, _, gi_V gwt2_167 gwt2_168 gwt2_169 gwt1_1 gwt2_170, rfl, by decide +kernel⟩
theorem gvL_69 : jm_gv RL 69 RX8 yX8_laws wsX8_laws 2 0 := ⟨_, _, gi_V gwt5_106 gwt5_107 gwt5_108 gwt1_9 gwt5_109, rfl, by decide +kernel⟩
theorem gvL_70 : jm_gv RL 70 RX7 yX7_rocks wsX7_rocks 4 0 := ⟨_, _, gi_V gwt3_72 gwt3_73 gwt3_74 gwt1_1 gwt3_75, rfl, by decide +kernel⟩
theorem gvL_73 : jm_gv RL 73 RX8 yX8_rocks wsX8_rocks 2 0 := ⟨_, _, gi_V gwt5_144 gwt5_145 gwt5_146 gwt1_9 gwt5_147, rfl, by decide +kernel⟩
theorem gvL_74 : jm_gv RL 74 RX7 yX7_count wsX7_count 2 1 := ⟨_, _, gi_V gwt3_101 gwt3_102 gwt3_103 gwt1_1 gwt3_104, rfl, by decide +kernel⟩
theorem gvL_77 : jm_gv RL 77 RX8 yX8_count wsX8_count 2 1 := ⟨_, _, gi_V gwt5_148 gwt5_149 gwt5_150 gwt1_9 gwt5_151, rfl, by decide +kernel⟩
theorem gvL_78 : jm_gv RL 78 RX7 yX7_minute wsX7_minute 1 0 := ⟨_, _, gi_V gwt3_126 gwt3_127 gwt3_128 gwt1_1 gwt3_129, rfl, by decide +kernel⟩
theorem gvL_81 : jm_gv RL 81 RX8 yX8_minute wsX8_minute 1 0 := ⟨_, _, gi_V gwt5_162 gwt5_163 gwt5_164 gwt1_9 gwt5_165, rfl, by decide +kernel⟩
theorem gvL_82 : jm_gv RL 82 RX7 yX7_night wsX7_night 2 1 := ⟨_, _, gi_V gwt3_168 gwt3_169 gwt3_170 gwt1_1 gwt3_171, rfl, by decide +kernel⟩
theorem gvL_85 : jm_gv RL 85 RX8 yX8_night wsX8_night 2 1 := ⟨_, _, gi_V gwt5_193 gwt5_194 gwt5_195 gwt1_9 gwt5_196, rfl, by decide +kernel⟩
theorem gvL_86 : jm_gv RL 86 RX7 yX7_lots wsX7_lots 2 1 := ⟨_, _, gi_V gwt3_176 gwt3_177 gwt3_178 gwt1_1 gwt3_179, rfl, by decide +kernel⟩
theorem gvL_89 : jm_gv RL 89 RX8 yX8_lots wsX8_lots 3 1 := ⟨_, _, gi_V gwt5_202 gwt5_203 gwt5_204 gwt1_9 gwt5_205, rfl, by decide +kernel⟩
theorem gvL_90 : jm_gv RL 90 RX7 yX7_seed wsX7_seed 3 1 := ⟨_, _, gi_V gwt3_180 gwt3_181 gwt3_182 gwt1_1 gwt3_183, rfl, by decide +kernel⟩
theorem gvL_93 : jm_gv RL 93 RX8 yX8_seed wsX8_seed 3 1 := ⟨_, _, gi_V gwt5_206 gwt5_207 gwt5_208 gwt1_9 gwt5_209, rfl, by decide +kernel⟩
theorem gvL_94 : jm_gv RL 94 RX7 yX7_behind wsX7_behind 5 3 := ⟨_, _, gi_V gwt3_184 gwt3_185 gwt3_186 gwt1_1 gwt3_187, rfl, by decide +kernel⟩
theorem gvL_97 : jm_gv RL 97 RX8 yX8_behind wsX8_behind 4 3 := ⟨_, _, gi_V gwt5_210 gwt5_211 gwt5_212 gwt1_9 gwt5_213, rfl, by decide +kernel⟩
theorem gvL_98 : jm_gv RL 98 RX7 yX7_when wsX7_when 3 1 := ⟨_, _, gi_V gwt3_213 gwt3_214 gwt3_215 gwt1_1 gwt3_216, rfl, by decide +kernel⟩
theorem gvL_101 : jm_gv RL 101 RX8 yX8_when wsX8_when 3 1 := ⟨_, _, gi_V gwt5_221 gwt5_222 gwt5_223 gwt1_9 gwt5_224, rfl, by decide +kernel⟩
theorem gvL_102 : jm_gv RL 102 RX7 yX7_darkest wsX7_darkest 2 1 := ⟨_, _, gi_V gwt3_239 gwt4_0 gwt4_1 gwt1_1 gwt4_2, rfl, by decide +kernel⟩
theorem gvL_105 : jm_gv RL 105 RX8 yX8_darkest wsX8_darkest 6 1 := ⟨_, _, gi_V gwt5_229 gwt5_230 gwt5_231 gwt1_9 gwt5_232, rfl, by decide +kernel⟩
theorem gvL_106 : jm_gv RL 106 RX7 yX7_holds wsX7_holds 2 1 := ⟨_, _, gi_V gwt4_11 gwt4_12 gwt4_13 gwt1_1 gwt4_14, rfl, by decide +kernel⟩
theorem gvL_109 : jm_gv RL 109 RX8 yX8_holds wsX8_holds 2 1 := ⟨_, _, gi_V gwt5_233 gwt5_234 gwt5_235 gwt1_9 gwt5_236, rfl, by decide +kernel⟩
theorem gvL_110 : jm_gv RL 110 RX7 yX7_bears wsX7_bears 2 0 := ⟨_, _, gi_V gwt4_19 gwt4_20 gwt4_21 gwt1_1 gwt4_22, rfl, by decide +kernel⟩
theorem gvL_113 : jm_gv RL 113 RX8 yX8_bears wsX8_bears 2 0 := ⟨_, _, gi_V gwt6_1 gwt6_2 gwt6_3 gwt1_9 gwt6_4, rfl, by decide +kernel⟩
theorem gvL_114 : jm_gv RL 114 RX7 yX7_worst wsX7_worst 2 1 := ⟨_, _, gi_V gwt4_32 gwt4_33 gwt4_34 gwt1_1 gwt4_35, rfl, by decide +kernel⟩
theorem gvL_117 : jm_gv RL 117 RX8 yX8_worst wsX8_worst 7 1 := ⟨_, _, gi_V gwt6_12 gwt6_13 gwt6_14 gwt1_9 gwt6_15, rfl, by decide +kernel⟩
theorem gvL_118 : jm_gv RL 118 RX7 yX7_least wsX7_least 3 2 := ⟨_, _, gi_V gwt4_40 gwt4_41 gwt4_42 gwt1_1 gwt4_43, rfl, by decide +kernel⟩
theorem gvL_121 : jm_gv RL 121 RX8 yX8_least wsX8_least 6 2 := ⟨_, _, gi_V gwt6_16 gwt6_17 gwt6_18 gwt1_9 gwt6_19, rfl, by decide +kernel⟩
theorem gvL_122 : jm_gv RL 122 RX7 yX7_spare wsX7_spare 1 0 := ⟨_, _, gi_V gwt4_54 gwt4_55 gwt4_56 gwt1_1 gwt4_57, rfl, by decide +kernel⟩
theorem gvL_125 : jm_gv RL 125 RX8 yX8_spare wsX8_spare 5 0 := ⟨_, _, gi_V gwt6_20 gwt6_21 gwt6_22 gwt1_9 gwt6_23, rfl, by decide +kernel⟩
theorem gvL_126 : jm_gv RL 126 RX7 yX7_log wsX7_log 4 3 := ⟨_, _, gi_V gwt4_67 gwt4_68 gwt4_69 gwt1_1 gwt4_70, rfl, by decide +kernel⟩
theorem gvL_129 : jm_gv RL 129 RX8 yX8_log wsX8_log 5 3 := ⟨_, _, gi_V gwt6_24 gwt6_25 gwt6_26 gwt1_9 gwt6_27, rfl, by decide +kernel⟩
theorem gvL_130 : jm_gv RL 130 RX7 yX7_burn wsX7_burn 2 0 := ⟨_, _, gi_V gwt4_75 gwt4_76 gwt4_77 gwt1_1 gwt4_78, rfl, by decide +kernel⟩
theorem gvL_133 : jm_gv RL 133 RX8 yX8_burn wsX8_burn 2 0 := ⟨_, _, gi_V gwt6_29 gwt6_30 gwt6_31 gwt1_9 gwt6_32, rfl, by decide +kernel⟩
theorem gvL_134 : jm_gv RL 134 RX7 yX7_sure wsX7_sure 1 0 := ⟨_, _, gi_V gwt4_79 gwt4_80 gwt4_81 gwt1_1 gwt4_82, rfl, by decide +kernel⟩
theorem gvL_137 : jm_gv RL 137 RX8 yX8_sure wsX8_sure 1 0 := ⟨_, _, gi_V gwt6_33 gwt6_34 gwt6_35 gwt1_9 gwt6_36, rfl, by decide +kernel⟩
theorem gvL_138 : jm_gv RL 138 RX7 yX7_fits wsX7_fits 4 1 := ⟨_, _, gi_V gwt4_87 gwt4_88 gwt4_89 gwt1_1 gwt4_90, rfl, by decide +kernel⟩
theorem gvL_141 : jm_gv RL 141 RX8 yX8_fits wsX8_fits 5 1 := ⟨_, _, gi_V gwt6_41 gwt6_42 gwt6_43 gwt1_9 gwt6_44, rfl, by decide +kernel⟩
theorem gvL_142 : jm_gv RL 142 RX7 yX7_ask wsX7_ask 1 0 := ⟨_, _, gi_V gwt4_95 gwt4_96 gwt4_97 gwt1_1 gwt4_98, rfl, by decide +kernel⟩
theorem gvL_145 : jm_gv RL 145 RX8 yX8_ask wsX8_ask 6 0 := ⟨_, _, gi_V gwt6_45 gwt6_46 gwt6_47 gwt1_9 gwt6_48, rfl, by decide +kernel⟩
theorem gvL_146 : jm_gv RL 146 RX7 yX7_ship wsX7_ship 5 2 := ⟨_, _, gi_V gwt4_116 gwt4_117 gwt4_118 gwt1_1 gwt4_119, rfl, by decide +kernel⟩
theorem gvL_149 : jm_gv RL 149 RX8 yX8_ship wsX8_ship 7 2 := ⟨_, _, gi_V gwt6_57 gwt6_58 gwt6_59 gwt1_9 gwt6_60, rfl, by decide +kernel⟩
theorem gvL_150 : jm_gv RL 150 RX7 yX7_image wsX7_image 1 0 := ⟨_, _, gi_V gwt4_121 gwt4_122 gwt4_123 gwt1_1 gwt4_124, rfl, by decide +kernel⟩
theorem gvL_153 : jm_gv RL 153 RX8 yX8_image wsX8_image 1 0 := ⟨_, _, gi_V gwt6_62 gwt6_63 gwt6_64 gwt1_9 gwt6_65, rfl, by decide +kernel⟩
theorem gvL_154 : jm_gv RL 154 RX7 yX7_restore wsX7_restore 1 0 := ⟨_, _, gi_V gwt4_136 gwt4_137 gwt4_138 gwt1_1 gwt4_139, rfl, by decide +kernel⟩
theorem gvL_157 : jm_gv RL 157 RX8 yX8_restore wsX8_restore 1 0 := ⟨_, _, gi_V gwt6_66 gwt6_67 gwt6_68 gwt1_9 gwt6_69, rfl, by decide +kernel⟩
theorem gvL_158 : jm_gv RL 158 RX7 yX7_delays wsX7_delays 10 4 := ⟨_, _, gi_V gwt4_140 gwt4_141 gwt4_142 gwt1_1 gwt4_143, rfl, by decide +kernel⟩
theorem gvL_161 : jm_gv RL 161 RX8 yX8_delays wsX8_delays 7 4 := ⟨_, _, gi_V gwt6_70 gwt6_71 gwt6_72 gwt1_9 gwt6_73, rfl, by decide +kernel⟩
theorem gvL_162 : jm_gv RL 162 RX7 yX7_film wsX7_film 6 3 := ⟨_, _, gi_V gwt4_153 gwt4_154 gwt4_155 gwt1_1 gwt4_156, rfl, by decide +kernel⟩
theorem gvL_165 : jm_gv RL 165 RX8 yX8_film wsX8_film 6 3 := ⟨_, _, gi_V gwt6_81 gwt6_82 gwt6_83 gwt1_9 gwt6_84, rfl, by decide +kernel⟩
theorem gvL_166 : jm_gv RL 166 RX7 yX7_seen wsX7_seen 6 3 := ⟨_, _, gi_V gwt4_157 gwt4_158 gwt4_159 gwt1_1 gwt4_160, rfl, by decide +kernel⟩
theorem gvL_169 : jm_gv RL 169 RX8 yX8_seen wsX8_seen 8 3 := ⟨_, _, gi_V gwt6_85 gwt6_86 gwt6_87 gwt1_9 gwt6_88, rfl, by decide +kernel⟩
theorem gvL_170 : jm_gv RL 170 RX7 yX7_sheet wsX7_sheet 4 3 := ⟨_, _, gi_V gwt4_165 gwt4_166 gwt4_167 gwt1_1 gwt4_168, rfl, by decide +kernel⟩
theorem gvL_173 : jm_gv RL 173 RX8 yX8_sheet wsX8_sheet 5 3 := ⟨_, _, gi_V gwt6_89 gwt6_90 gwt6_91 gwt1_9 gwt6_92, rfl, by decide +kernel⟩
theorem gvL_174 : jm_gv RL 174 RX7 yX7_drop wsX7_drop 2 1 := ⟨_, _, gi_V gwt4_176 gwt4_177 gwt4_178 gwt1_1 gwt4_179, rfl, by decide +kernel⟩
theorem gvL_177 : jm_gv RL 177 RX8 yX8_drop wsX8_drop 2 1 := ⟨_, _, gi_V gwt6_93 gwt6_94 gwt6_95 gwt1_9 gwt6_96, rfl, by decide +kernel⟩
theorem gvL_180 : jm_gv RL 180 RX7 yX7_item wsX7_item 7 4 := ⟨_, _, gi_V gwt4_180 gwt4_181 gwt4_182 gwt1_1 gwt4_183, rfl, by decide +kernel⟩
theorem gvL_184 : jm_gv RL 184 RX8 yX8_item wsX8_item 7 4 := ⟨_, _, gi_V gwt6_97 gwt6_98 gwt6_99 gwt1_9 gwt6_100, rfl, by decide +kernel⟩
theorem gvL_185 : jm_gv RL 185 RX7 yX7_copy wsX7_copy 8 5 := ⟨_, _, gi_V gwt4_188 gwt4_189 gwt4_190 gwt1_1 gwt4_191, rfl, by decide +kernel⟩
theorem gvL_189 : jm_gv RL 189 RX8 yX8_copy wsX8_copy 7 5 := ⟨_, _, gi_V gwt6_104 gwt6_105 gwt6_106 gwt1_9 gwt6_107, rfl, by decide +kernel⟩
set_option maxHeartbeats 4000000 in
set_option maxRecDepth 100000 in
theorem lc_rock {Γ : jG} {I : Mem → Prop} {L j : Nat} {xs : Nat → Int32} (C : jC Γ 4 cL_law RL room_1) (S : jX Γ L xs) (hL : L ≤ 384) (hj : j + 6 ≤ L) (ok : ok_rock I) (μ : Mem) (hI : I μ) (k : ∀ μ2, I μ2 → jJ Γ 4 1472 [(3, .int (nI j)), (2, .ref 113), (1, .ref 0), (0, .ref 3000)] [] μ2) : jJ Γ 4 216 [(3, .int (nI j)), (2, .ref 113), (1, .ref 0), (0, .ref 3000)] [] μ := by
  obtain ⟨r, μ1, μ2, h1, h2, h3⟩ := ok (xs (j + 1)) (xs (j + 2)) μ hI
  refine j_aload_n C dL_law_216 rfl 2 rfl ?_
  refine j_aload_n C dL_law_217 rfl 3 rfl ?_
  refine j_iload_n C dL_law_218 rfl 0 rfl ?_
  refine j_iconst (v := 1) C dL_law_219 rfl (by decide) ?_
  refine j_iaddv (v := nI (j + 1)) C dL_law_220 rfl (nI_add j 1) ?_
  refine j_sld (j := j + 1) C S dL_law_221 rfl (by omega) hL ?_
  refine j_aload_n C dL_law_222 rfl 3 rfl ?_
  refine j_iload_n C dL_law_223 rfl 0 rfl ?_
  refine j_iconst (v := 2) C dL_law_224 rfl (by decide) ?_
  refine j_iaddv (v := nI (j + 2)) C dL_law_225 rfl (nI_add j 2) ?_
  refine j_sld (j := j + 2) C S dL_law_226 rfl (by omega) hL ?_
  refine j_cVI (av := [.int (xs (j + 1)), .int (xs (j + 2))]) (rest := []) C dL_law_227 rfl (c_X7_rock _ _ _ _ μ (r, μ1) h1) gvL_13 ⟨⟨rfl, rfl⟩, Nat.le_of_ble_eq_true rfl, Nat.le_of_ble_eq_true rfl⟩ rfl is_0 rfl rfl (Nat.le_of_ble_eq_true rfl) ?_
  refine j_aload_n C dL_law_230 rfl 1 rfl ?_
  refine j_aload_n C dL_law_231 rfl 3 rfl ?_
  refine j_iload_n C dL_law_232 rfl 0 rfl ?_
  refine j_iconst (v := 1) C dL_law_233 rfl (by decide) ?_
  refine j_iaddv (v := nI (j + 1)) C dL_law_234 rfl (nI_add j 1) ?_
  refine j_sld (j := j + 1) C S dL_law_235 rfl (by omega) hL ?_
  refine j_aload_n C dL_law_236 rfl 3 rfl ?_
  refine j_iload_n C dL_law_237 rfl 0 rfl ?_
  refine j_iconst (v := 2) C dL_law_238 rfl (by decide) ?_
  refine j_iaddv (v := nI (j + 2)) C dL_law_239 rfl (nI_add j 2) ?_
  refine j_sld (j := j + 2) C S dL_law_240 rfl (by omega) hL ?_
  refine j_cVI (av := [.int (xs (j + 1)), .int (xs (j + 2))]) (rest := [.int r]) C dL_law_241 rfl (c_X8_rock _ _ _ _ μ1 (r, μ2) h2) gvL_17 ⟨⟨rfl, rfl⟩, Nat.le_of_ble_eq_true rfl, Nat.le_of_ble_eq_true rfl⟩ rfl is_113 rfl rfl (Nat.le_of_ble_eq_true rfl) ?_
  refine j_icmp_eq (tgt := 1472) C dL_law_244 rfl (by decide) (fun _ => ?_) (fun q => absurd rfl q)
  exact k μ2 h3
set_option maxHeartbeats 4000000 in
set_option maxRecDepth 100000 in
theorem lc_out {Γ : jG} {I : Mem → Prop} {L j : Nat} {xs : Nat → Int32} (C : jC Γ 4 cL_law RL room_1) (S : jX Γ L xs) (hL : L ≤ 384) (hj : j + 6 ≤ L) (ok : ok_out I) (μ : Mem) (hI : I μ) (k : ∀ μ2, I μ2 → jJ Γ 4 1472 [(3, .int (nI j)), (2, .ref 113), (1, .ref 0), (0, .ref 3000)] [] μ2) : jJ Γ 4 249 [(3, .int (nI j)), (2, .ref 113), (1, .ref 0), (0, .ref 3000)] [] μ := by
  obtain ⟨r, μ1, μ2, h1, h2, h3⟩ := ok μ hI
  refine j_aload_n C dL_law_249 rfl 2 rfl ?_
  refine j_cVI (av := []) (rest := []) C dL_law_250 rfl (c_X7_out _ _ _ _ μ (r, μ1) h1) gvL_18 ⟨⟨rfl, rfl⟩, Nat.le_of_ble_eq_true rfl, Nat.le_of_ble_eq_true rfl⟩ rfl is_0 rfl rfl (Nat.le_of_ble_eq_true rfl) ?_
  refine j_aload_n C dL_law_253 rfl 1 rfl ?_
  refine j_cVI (av := []) (rest := [.int r]) C dL_law_254 rfl (c_X8_out _ _ _ _ μ1 (r, μ2) h2) gvL_22 ⟨⟨rfl, rfl⟩, Nat.le_of_ble_eq_true rfl, Nat.le_of_ble_eq_true rfl⟩ rfl is_113 rfl rfl (Nat.le_of_ble_eq_true rfl) ?_
  refine j_icmp_eq (tgt := 1472) C dL_law_257 rfl (by decide) (fun _ => ?_) (fun q => absurd rfl q)
  exact k μ2 h3
set_option maxHeartbeats 4000000 in
set_option maxRecDepth 100000 in
theorem lc_turn {Γ : jG} {I : Mem → Prop} {L j : Nat} {xs : Nat → Int32} (C : jC Γ 4 cL_law RL room_1) (S : jX Γ L xs) (hL : L ≤ 384) (hj : j + 6 ≤ L) (ok : ok_turn I) (μ : Mem) (hI : I μ) (k : ∀ μ2, I μ2 → jJ Γ 4 1472 [(3, .int (nI j)), (2, .ref 113), (1, .ref 0), (0, .ref 3000)] [] μ2) : jJ Γ 4 262 [(3, .int (nI j)), (2, .ref 113), (1, .ref 0), (0, .ref 3000)] [] μ := by
  obtain ⟨r, μ1, μ2, h1, h2, h3⟩ := ok (xs (j + 1)) (xs (j + 2)) μ hI
  refine j_aload_n C dL_law_262 rfl 2 rfl ?_
  refine j_aload_n C dL_law_263 rfl 3 rfl ?_
  refine j_iload_n C dL_law_264 rfl 0 rfl ?_
  refine j_iconst (v := 1) C dL_law_265 rfl (by decide) ?_
  refine j_iaddv (v := nI (j + 1)) C dL_law_266 rfl (nI_add j 1) ?_
  refine j_sld (j := j + 1) C S dL_law_267 rfl (by omega) hL ?_
  refine j_aload_n C dL_law_268 rfl 3 rfl ?_
  refine j_iload_n C dL_law_269 rfl 0 rfl ?_
  refine j_iconst (v := 2) C dL_law_270 rfl (by decide) ?_
  refine j_iaddv (v := nI (j + 2)) C dL_law_271 rfl (nI_add j 2) ?_
  refine j_sld (j := j + 2) C S dL_law_272 rfl (by omega) hL ?_
  refine j_cVI (av := [.int (xs (j + 1)), .int (xs (j + 2))]) (rest := []) C dL_law_273 rfl (c_X7_turn _ _ _ _ μ (r, μ1) h1) gvL_23 ⟨⟨rfl, rfl⟩, Nat.le_of_ble_eq_true rfl, Nat.le_of_ble_eq_true rfl⟩ rfl is_0 rfl rfl (Nat.le_of_ble_eq_true rfl) ?_
  refine j_aload_n C dL_law_276 rfl 1 rfl ?_
  refine j_aload_n C dL_law_277 rfl 3 rfl ?_
  refine j_iload_n C dL_law_278 rfl 0 rfl ?_
  refine j_iconst (v := 1) C dL_law_279 rfl (by decide) ?_
  refine j_iaddv (v := nI (j + 1)) C dL_law_280 rfl (nI_add j 1) ?_
  refine j_sld (j := j + 1) C S dL_law_281 rfl (by omega) hL ?_
  refine j_aload_n C dL_law_282 rfl 3 rfl ?_
  refine j_iload_n C dL_law_283 rfl 0 rfl ?_
  refine j_iconst (v := 2) C dL_law_284 rfl (by decide) ?_
  refine j_iaddv (v := nI (j + 2)) C dL_law_285 rfl (nI_add j 2) ?_
  refine j_sld (j := j + 2) C S dL_law_286 rfl (by omega) hL ?_
  refine j_cVI (av := [.int (xs (j + 1)), .int (xs (j + 2))]) (rest := [.int r]) C dL_law_287 rfl (c_X8_turn _ _ _ _ μ1 (r, μ2) h2) gvL_26 ⟨⟨rfl, rfl⟩, Nat.le_of_ble_eq_true rfl, Nat.le_of_ble_eq_true rfl⟩ rfl is_113 rfl rfl (Nat.le_of_ble_eq_true rfl) ?_
  refine j_icmp_eq (tgt := 1472) C dL_law_290 rfl (by decide) (fun _ => ?_) (fun q => absurd rfl q)
  exact k μ2 h3
set_option maxHeartbeats 4000000 in
set_option maxRecDepth 100000 in
theorem lc_dark {Γ : jG} {I : Mem → Prop} {L j : Nat} {xs : Nat → Int32} (C : jC Γ 4 cL_law RL room_1) (S : jX Γ L xs) (hL : L ≤ 384) (hj : j + 6 ≤ L) (ok : ok_dark I) (μ : Mem) (hI : I μ) (k : ∀ μ2, I μ2 → jJ Γ 4 1472 [(3, .int (nI j)), (2, .ref 113), (1, .ref 0), (0, .ref 3000)] [] μ2) : jJ Γ 4 295 [(3, .int (nI j)), (2, .ref 113), (1, .ref 0), (0, .ref 3000)] [] μ := by
  obtain ⟨r, μ1, μ2, h1, h2, h3⟩ := ok (xs (j + 1)) (xs (j + 2)) (xs (j + 3)) μ hI
  refine j_aload_n C dL_law_295 rfl 2 rfl ?_
  refine j_aload_n C dL_law_296 rfl 3 rfl ?_
  refine j_iload_n C dL_law_297 rfl 0 rfl ?_
  refine j_iconst (v := 1) C dL_law_298 rfl (by decide) ?_
  refine j_iaddv (v := nI (j + 1)) C dL_law_299 rfl (nI_add j 1) ?_
  refine j_sld (j := j + 1) C S dL_law_300 rfl (by omega) hL ?_
  refine j_aload_n C dL_law_301 rfl 3 rfl ?_
  refine j_iload_n C dL_law_302 rfl 0 rfl ?_
  refine j_iconst (v := 2) C dL_law_303 rfl (by decide) ?_
  refine j_iaddv (v := nI (j + 2)) C dL_law_304 rfl (nI_add j 2) ?_
  refine j_sld (j := j + 2) C S dL_law_305 rfl (by omega) hL ?_
  refine j_aload_n C dL_law_306 rfl 3 rfl ?_
  refine j_iload_n C dL_law_307 rfl 0 rfl ?_
  refine j_iconst (v := 3) C dL_law_308 rfl (by decide) ?_
  refine j_iaddv (v := nI (j + 3)) C dL_law_309 rfl (nI_add j 3) ?_
  refine j_sld (j := j + 3) C S dL_law_310 rfl (by omega) hL ?_
  refine j_cVI (av := [.int (xs (j + 1)), .int (xs (j + 2)), .int (xs (j + 3))]) (rest := []) C dL_law_311 rfl (c_X7_dark _ _ _ _ μ (r, μ1) h1) gvL_27 ⟨⟨rfl, rfl⟩, Nat.le_of_ble_eq_true rfl, Nat.le_of_ble_eq_true rfl⟩ rfl is_0 rfl rfl (Nat.le_of_ble_eq_true rfl) ?_
  refine j_aload_n C dL_law_314 rfl 1 rfl ?_
  refine j_aload_n C dL_law_315 rfl 3 rfl ?_
  refine j_iload_n C dL_law_316 rfl 0 rfl ?_
  refine j_iconst (v := 1) C dL_law_317 rfl (by decide) ?_
  refine j_iaddv (v := nI (j + 1)) C dL_law_318 rfl (nI_add j 1) ?_
  refine j_sld (j := j + 1) C S dL_law_319 rfl (by omega) hL ?_
  refine j_aload_n C dL_law_320 rfl 3 rfl ?_
  refine j_iload_n C dL_law_321 rfl 0 rfl ?_
  refine j_iconst (v := 2) C dL_law_322 rfl (by decide) ?_
  refine j_iaddv (v := nI (j + 2)) C dL_law_323 rfl (nI_add j 2) ?_
  refine j_sld (j := j + 2) C S dL_law_324 rfl (by omega) hL ?_
  refine j_aload_n C dL_law_325 rfl 3 rfl ?_
  refine j_iload_n C dL_law_326 rfl 0 rfl ?_
  refine j_iconst (v := 3) C dL_law_327 rfl (by decide) ?_
  refine j_iaddv (v := nI (j + 3)) C dL_law_328 rfl (nI_add j 3) ?_
  refine j_sld (j := j + 3) C S dL_law_329 rfl (by omega) hL ?_
  refine j_cVI (av := [.int (xs (j + 1)), .int (xs (j + 2)), .int (xs (j + 3))]) (rest := [.int r]) C dL_law_330 rfl (c_X8_dark _ _ _ _ μ1 (r, μ2) h2) gvL_31 ⟨⟨rfl, rfl⟩, Nat.le_of_ble_eq_true rfl, Nat.le_of_ble_eq_true rfl⟩ rfl is_113 rfl rfl (Nat.le_of_ble_eq_true rfl) ?_
  refine j_icmp_eq (tgt := 1472) C dL_law_333 rfl (by decide) (fun _ => ?_) (fun q => absurd rfl q)
  exact k μ2 h3
set_option maxHeartbeats 4000000 in
set_option maxRecDepth 100000 in
theorem lc_delay {Γ : jG} {I : Mem → Prop} {L j : Nat} {xs : Nat → Int32} (C : jC Γ 4 cL_law RL room_1) (S : jX Γ L xs) (hL : L ≤ 384) (hj : j + 6 ≤ L) (ok : ok_delay I) (μ : Mem) (hI : I μ) (k : ∀ μ2, I μ2 → jJ Γ 4 1472 [(3, .int (nI j)), (2, .ref 113), (1, .ref 0), (0, .ref 3000)] [] μ2) : jJ Γ 4 338 [(3, .int (nI j)), (2, .ref 113), (1, .ref 0), (0, .ref 3000)] [] μ := by
  obtain ⟨r, μ1, μ2, h1, h2, h3⟩ := ok (xs (j + 1)) (xs (j + 2)) (xs (j + 3)) μ hI
  refine j_aload_n C dL_law_338 rfl 2 rfl ?_
  refine j_aload_n C dL_law_339 rfl 3 rfl ?_
  refine j_iload_n C dL_law_340 rfl 0 rfl ?_
  refine j_iconst (v := 1) C dL_law_341 rfl (by decide) ?_
  refine j_iaddv (v := nI (j + 1)) C dL_law_342 rfl (nI_add j 1) ?_
  refine j_sld (j := j + 1) C S dL_law_343 rfl (by omega) hL ?_
  refine j_aload_n C dL_law_344 rfl 3 rfl ?_
  refine j_iload_n C dL_law_345 rfl 0 rfl ?_
  refine j_iconst (v := 2) C dL_law_346 rfl (by decide) ?_
  refine j_iaddv (v := nI (j + 2)) C dL_law_347 rfl (nI_add j 2) ?_
  refine j_sld (j := j + 2) C S dL_law_348 rfl (by omega) hL ?_
  refine j_aload_n C dL_law_349 rfl 3 rfl ?_
  refine j_iload_n C dL_law_350 rfl 0 rfl ?_
  refine j_iconst (v := 3) C dL_law_351 rfl (by decide) ?_
  refine j_iaddv (v := nI (j + 3)) C dL_law_352 rfl (nI_add j 3) ?_
  refine j_sld (j := j + 3) C S dL_law_353 rfl (by omega) hL ?_
  refine j_cVI (av := [.int (xs (j + 1)), .int (xs (j + 2)), .int (xs (j + 3))]) (rest := []) C dL_law_354 rfl (c_X7_delay _ _ _ _ μ (r, μ1) h1) gvL_32 ⟨⟨rfl, rfl⟩, Nat.le_of_ble_eq_true rfl, Nat.le_of_ble_eq_true rfl⟩ rfl is_0 rfl rfl (Nat.le_of_ble_eq_true rfl) ?_
  refine j_aload_n C dL_law_357 rfl 1 rfl ?_
  refine j_aload_n C dL_law_358 rfl 3 rfl ?_
  refine j_iload_n C dL_law_359 rfl 0 rfl ?_
  refine j_iconst (v := 1) C dL_law_360 rfl (by decide) ?_
  refine j_iaddv (v := nI (j + 1)) C dL_law_361 rfl (nI_add j 1) ?_
  refine j_sld (j := j + 1) C S dL_law_362 rfl (by omega) hL ?_
  refine j_aload_n C dL_law_363 rfl 3 rfl ?_
  refine j_iload_n C dL_law_364 rfl 0 rfl ?_
  refine j_iconst (v := 2) C dL_law_365 rfl (by decide) ?_
  refine j_iaddv (v := nI (j + 2)) C dL_law_366 rfl (nI_add j 2) ?_
  refine j_sld (j := j + 2) C S dL_law_367 rfl (by omega) hL ?_
  refine j_aload_n C dL_law_368 rfl 3 rfl ?_
  refine j_iload_n C dL_law_369 rfl 0 rfl ?_
  refine j_iconst (v := 3) C dL_law_370 rfl (by decide) ?_
  refine j_iaddv (v := nI (j + 3)) C dL_law_371 rfl (nI_add j 3) ?_
  refine j_sld (j := j + 3) C S dL_law_372 rfl (by omega) hL ?_
  refine j_cVI (av := [.int (xs (j + 1)), .int (xs (j + 2)), .int (xs (j + 3))]) (rest := [.int r]) C dL_law_373 rfl (c_X8_delay _ _ _ _ μ1 (r, μ2) h2) gvL_35 ⟨⟨rfl, rfl⟩, Nat.le_of_ble_eq_true rfl, Nat.le_of_ble_eq_true rfl⟩ rfl is_113 rfl rfl (Nat.le_of_ble_eq_true rfl) ?_
  refine j_icmp_eq (tgt := 1472) C dL_law_376 rfl (by decide) (fun _ => ?_) (fun q => absurd rfl q)
  exact k μ2 h3
set_option maxHeartbeats 4000000 in
set_option maxRecDepth 100000 in
theorem lc_told {Γ : jG} {I : Mem → Prop} {L j : Nat} {xs : Nat → Int32} (C : jC Γ 4 cL_law RL room_1) (S : jX Γ L xs) (hL : L ≤ 384) (hj : j + 6 ≤ L) (ok : ok_told I) (μ : Mem) (hI : I μ) (k : ∀ μ2, I μ2 → jJ Γ 4 1472 [(3, .int (nI j)), (2, .ref 113), (1, .ref 0), (0, .ref 3000)] [] μ2) : jJ Γ 4 381 [(3, .int (nI j)), (2, .ref 113), (1, .ref 0), (0, .ref 3000)] [] μ := by
  obtain ⟨r, μ1, μ2, h1, h2, h3⟩ := ok (xs (j + 1)) (xs (j + 2)) μ hI
  refine j_aload_n C dL_law_381 rfl 2 rfl ?_
  refine j_aload_n C dL_law_382 rfl 3 rfl ?_
  refine j_iload_n C dL_law_383 rfl 0 rfl ?_
  refine j_iconst (v := 1) C dL_law_384 rfl (by decide) ?_
  refine j_iaddv (v := nI (j + 1)) C dL_law_385 rfl (nI_add j 1) ?_
  refine j_sld (j := j + 1) C S dL_law_386 rfl (by omega) hL ?_
  refine j_aload_n C dL_law_387 rfl 3 rfl ?_
  refine j_iload_n C dL_law_388 rfl 0 rfl ?_
  refine j_iconst (v := 2) C dL_law_389 rfl (by decide) ?_
  refine j_iaddv (v := nI (j + 2)) C dL_law_390 rfl (nI_add j 2) ?_
  refine j_sld (j := j + 2) C S dL_law_391 rfl (by omega) hL ?_
  refine j_cVI (av := [.int (xs (j + 1)), .int (xs (j + 2))]) (rest := []) C dL_law_392 rfl (c_X7_told _ _ _ _ μ (r, μ1) h1) gvL_36 ⟨⟨rfl, rfl⟩, Nat.le_of_ble_eq_true rfl, Nat.le_of_ble_eq_true rfl⟩ rfl is_0 rfl rfl (Nat.le_of_ble_eq_true rfl) ?_
  refine j_aload_n C dL_law_395 rfl 1 rfl ?_
  refine j_aload_n C dL_law_396 rfl 3 rfl ?_
  refine j_iload_n C dL_law_397 rfl 0 rfl ?_
  refine j_iconst (v := 1) C dL_law_398 rfl (by decide) ?_
  refine j_iaddv (v := nI (j + 1)) C dL_law_399 rfl (nI_add j 1) ?_
  refine j_sld (j := j + 1) C S dL_law_400 rfl (by omega) hL ?_
  refine j_aload_n C dL_law_401 rfl 3 rfl ?_
  refine j_iload_n C dL_law_402 rfl 0 rfl ?_
  refine j_iconst (v := 2) C dL_law_403 rfl (by decide) ?_
  refine j_iaddv (v := nI (j + 2)) C dL_law_404 rfl (nI_add j 2) ?_
  refine j_sld (j := j + 2) C S dL_law_405 rfl (by omega) hL ?_
  refine j_cVI (av := [.int (xs (j + 1)), .int (xs (j + 2))]) (rest := [.int r]) C dL_law_406 rfl (c_X8_told _ _ _ _ μ1 (r, μ2) h2) gvL_39 ⟨⟨rfl, rfl⟩, Nat.le_of_ble_eq_true rfl, Nat.le_of_ble_eq_true rfl⟩ rfl is_113 rfl rfl (Nat.le_of_ble_eq_true rfl) ?_
  refine j_icmp_eq (tgt := 1472) C dL_law_409 rfl (by decide) (fun _ => ?_) (fun q => absurd rfl q)
  exact k μ2 h3
set_option maxHeartbeats 4000000 in
set_option maxRecDepth 100000 in
theorem lc_heard {Γ : jG} {I : Mem → Prop} {L j : Nat} {xs : Nat → Int32} (C : jC Γ 4 cL_law RL room_1) (S : jX Γ L xs) (hL : L ≤ 384) (hj : j + 6 ≤ L) (ok : ok_heard I) (μ : Mem) (hI : I μ) (k : ∀ μ2, I μ2 → jJ Γ 4 1472 [(3, .int (nI j)), (2, .ref 113), (1, .ref 0), (0, .ref 3000)] [] μ2) : jJ Γ 4 414 [(3, .int (nI j)), (2, .ref 113), (1, .ref 0), (0, .ref 3000)] [] μ := by
  obtain ⟨r, μ1, μ2, h1, h2, h3⟩ := ok (xs (j + 1)) (xs (j + 2)) μ hI
  refine j_aload_n C dL_law_414 rfl 2 rfl ?_
  refine j_aload_n C dL_law_415 rfl 3 rfl ?_
  refine j_iload_n C dL_law_416 rfl 0 rfl ?_
  refine j_iconst (v := 1) C dL_law_417 rfl (by decide) ?_
  refine j_iaddv (v := nI (j + 1)) C dL_law_418 rfl (nI_add j 1) ?_
  refine j_sld (j := j + 1) C S dL_law_419 rfl (by omega) hL ?_
  refine j_aload_n C dL_law_420 rfl 3 rfl ?_
  refine j_iload_n C dL_law_421 rfl 0 rfl ?_
  refine j_iconst (v := 2) C dL_law_422 rfl (by decide) ?_
  refine j_iaddv (v := nI (j + 2)) C dL_law_423 rfl (nI_add j 2) ?_
  refine j_sld (j := j + 2) C S dL_law_424 rfl (by omega) hL ?_
  refine j_cVI (av := [.int (xs (j + 1)), .int (xs (j + 2))]) (rest := []) C dL_law_425 rfl (c_X7_heard _ _ _ _ μ (r, μ1) h1) gvL_40 ⟨⟨rfl, rfl⟩, Nat.le_of_ble_eq_true rfl, Nat.le_of_ble_eq_true rfl⟩ rfl is_0 rfl rfl (Nat.le_of_ble_eq_true rfl) ?_
  refine j_aload_n C dL_law_428 rfl 1 rfl ?_
  refine j_aload_n C dL_law_429 rfl 3 rfl ?_
  refine j_iload_n C dL_law_430 rfl 0 rfl ?_
  refine j_iconst (v := 1) C dL_law_431 rfl (by decide) ?_
  refine j_iaddv (v := nI (j + 1)) C dL_law_432 rfl (nI_add j 1) ?_
  refine j_sld (j := j + 1) C S dL_law_433 rfl (by omega) hL ?_
  refine j_aload_n C dL_law_434 rfl 3 rfl ?_
  refine j_iload_n C dL_law_435 rfl 0 rfl ?_
  refine j_iconst (v := 2) C dL_law_436 rfl (by decide) ?_
  refine j_iaddv (v := nI (j + 2)) C dL_law_437 rfl (nI_add j 2) ?_
  refine j_sld (j := j + 2) C S dL_law_438 rfl (by omega) hL ?_
  refine j_cVI (av := [.int (xs (j + 1)), .int (xs (j + 2))]) (rest := [.int r]) C dL_law_439 rfl (c_X8_heard _ _ _ _ μ1 (r, μ2) h2) gvL_43 ⟨⟨rfl, rfl⟩, Nat.le_of_ble_eq_true rfl, Nat.le_of_ble_eq_true rfl⟩ rfl is_113 rfl rfl (Nat.le_of_ble_eq_true rfl) ?_
  refine j_icmp_eq (tgt := 1472) C dL_law_442 rfl (by decide) (fun _ => ?_) (fun q => absurd rfl q)
  exact k μ2 h3
set_option maxHeartbeats 4000000 in
set_option maxRecDepth 100000 in
theorem lc_counts {Γ : jG} {I : Mem → Prop} {L j : Nat} {xs : Nat → Int32} (C : jC Γ 4 cL_law RL room_1) (S : jX Γ L xs) (hL : L ≤ 384) (hj : j + 6 ≤ L) (ok : ok_counts I) (μ : Mem) (hI : I μ) (k : ∀ μ2, I μ2 → jJ Γ 4 1472 [(3, .int (nI j)), (2, .ref 113), (1, .ref 0), (0, .ref 3000)] [] μ2) : jJ Γ 4 447 [(3, .int (nI j)), (2, .ref 113), (1, .ref 0), (0, .ref 3000)] [] μ := by
  obtain ⟨r, μ1, μ2, h1, h2, h3⟩ := ok (xs (j + 1)) (xs (j + 2)) μ hI
  refine j_aload_n C dL_law_447 rfl 2 rfl ?_
  refine j_aload_n C dL_law_448 rfl 3 rfl ?_
  refine j_iload_n C dL_law_449 rfl 0 rfl ?_
  refine j_iconst (v := 1) C dL_law_450 rfl (by decide) ?_
  refine j_iaddv (v := nI (j + 1)) C dL_law_451 rfl (nI_add j 1) ?_
  refine j_sld (j := j + 1) C S dL_law_452 rfl (by omega) hL ?_
  refine j_aload_n C dL_law_453 rfl 3 rfl ?_
  refine j_iload_n C dL_law_454 rfl 0 rfl ?_
  refine j_iconst (v := 2) C dL_law_455 rfl (by decide) ?_
  refine j_iaddv (v := nI (j + 2)) C dL_law_456 rfl (nI_add j 2) ?_
  refine j_sld (j := j + 2) C S dL_law_457 rfl (by omega) hL ?_
  refine j_cVI (av := [.int (xs (j + 1)), .int (xs (j + 2))]) (rest := []) C dL_law_458 rfl (c_X7_counts _ _ _ _ μ (r, μ1) h1) gvL_44 ⟨⟨rfl, rfl⟩, Nat.le_of_ble_eq_true rfl, Nat.le_of_ble_eq_true rfl⟩ rfl is_0 rfl rfl (Nat.le_of_ble_eq_true rfl) ?_
  refine j_aload_n C dL_law_461 rfl 1 rfl ?_
  refine j_aload_n C dL_law_462 rfl 3 rfl ?_
  refine j_iload_n C dL_law_463 rfl 0 rfl ?_
  refine j_iconst (v := 1) C dL_law_464 rfl (by decide) ?_
  refine j_iaddv (v := nI (j + 1)) C dL_law_465 rfl (nI_add j 1) ?_
  refine j_sld (j := j + 1) C S dL_law_466 rfl (by omega) hL ?_
  refine j_aload_n C dL_law_467 rfl 3 rfl ?_
  refine j_iload_n C dL_law_468 rfl 0 rfl ?_
  refine j_iconst (v := 2) C dL_law_469 rfl (by decide) ?_
  refine j_iaddv (v := nI (j + 2)) C dL_law_470 rfl (nI_add j 2) ?_
  refine j_sld (j := j + 2) C S dL_law_471 rfl (by omega) hL ?_
  refine j_cVI (av := [.int (xs (j + 1)), .int (xs (j + 2))]) (rest := [.int r]) C dL_law_472 rfl (c_X8_counts _ _ _ _ μ1 (r, μ2) h2) gvL_47 ⟨⟨rfl, rfl⟩, Nat.le_of_ble_eq_true rfl, Nat.le_of_ble_eq_true rfl⟩ rfl is_113 rfl rfl (Nat.le_of_ble_eq_true rfl) ?_
  refine j_icmp_eq (tgt := 1472) C dL_law_475 rfl (by decide) (fun _ => ?_) (fun q => absurd rfl q)
  exact k μ2 h3
set_option maxHeartbeats 4000000 in
set_option maxRecDepth 100000 in
theorem lc_due {Γ : jG} {I : Mem → Prop} {L j : Nat} {xs : Nat → Int32} (C : jC Γ 4 cL_law RL room_1) (S : jX Γ L xs) (hL : L ≤ 384) (hj : j + 6 ≤ L) (ok : ok_due I) (μ : Mem) (hI : I μ) (k : ∀ μ2, I μ2 → jJ Γ 4 1472 [(3, .int (nI j)), (2, .ref 113), (1, .ref 0), (0, .ref 3000)] [] μ2) : jJ Γ 4 480 [(3, .int (nI j)), (2, .ref 113), (1, .ref 0), (0, .ref 3000)] [] μ := by
  obtain ⟨r, μ1, μ2, h1, h2, h3⟩ := ok (xs (j + 1)) (xs (j + 2)) (xs (j + 3)) μ hI
  refine j_aload_n C dL_law_480 rfl 2 rfl ?_
  refine j_aload_n C dL_law_481 rfl 3 rfl ?_
  refine j_iload_n C dL_law_482 rfl 0 rfl ?_
  refine j_iconst (v := 1) C dL_law_483 rfl (by decide) ?_
  refine j_iaddv (v := nI (j + 1)) C dL_law_484 rfl (nI_add j 1) ?_
  refine j_sld (j := j + 1) C S dL_law_485 rfl (by omega) hL ?_
  refine j_aload_n C dL_law_486 rfl 3 rfl ?_
  refine j_iload_n C dL_law_487 rfl 0 rfl ?_
  refine j_iconst (v := 2) C dL_law_488 rfl (by decide) ?_
  refine j_iaddv (v := nI (j + 2)) C dL_law_489 rfl (nI_add j 2) ?_
  refine j_sld (j := j + 2) C S dL_law_490 rfl (by omega) hL ?_
  refine j_aload_n C dL_law_491 rfl 3 rfl ?_
  refine j_iload_n C dL_law_492 rfl 0 rfl ?_
  refine j_iconst (v := 3) C dL_law_493 rfl (by decide) ?_
  refine j_iaddv (v := nI (j + 3)) C dL_law_494 rfl (nI_add j 3) ?_
  refine j_sld (j := j + 3) C S dL_law_495 rfl (by omega) hL ?_
  refine j_cVI (av := [.int (xs (j + 1)), .int (xs (j + 2)), .int (xs (j + 3))]) (rest := []) C dL_law_496 rfl (c_X7_due _ _ _ _ μ (r, μ1) h1) gvL_48 ⟨⟨rfl, rfl⟩, Nat.le_of_ble_eq_true rfl, Nat.le_of_ble_eq_true rfl⟩ rfl is_0 rfl rfl (Nat.le_of_ble_eq_true rfl) ?_
  refine j_aload_n C dL_law_499 rfl 1 rfl ?_
  refine j_aload_n C dL_law_500 rfl 3 rfl ?_
  refine j_iload_n C dL_law_501 rfl 0 rfl ?_
  refine j_iconst (v := 1) C dL_law_502 rfl (by decide) ?_
  refine j_iaddv (v := nI (j + 1)) C dL_law_503 rfl (nI_add j 1) ?_
  refine j_sld (j := j + 1) C S dL_law_504 rfl (by omega) hL ?_
  refine j_aload_n C dL_law_505 rfl 3 rfl ?_
  refine j_iload_n C dL_law_506 rfl 0 rfl ?_
  refine j_iconst (v := 2) C dL_law_507 rfl (by decide) ?_
  refine j_iaddv (v := nI (j + 2)) C dL_law_508 rfl (nI_add j 2) ?_
  refine j_sld (j := j + 2) C S dL_law_509 rfl (by omega) hL ?_
  refine j_aload_n C dL_law_510 rfl 3 rfl ?_
  refine j_iload_n C dL_law_511 rfl 0 rfl ?_
  refine j_iconst (v := 3) C dL_law_512 rfl (by decide) ?_
  refine j_iaddv (v := nI (j + 3)) C dL_law_513 rfl (nI_add j 3) ?_
  refine j_sld (j := j + 3) C S dL_law_514 rfl (by omega) hL ?_
  refine j_cVI (av := [.int (xs (j + 1)), .int (xs (j + 2)), .int (xs (j + 3))]) (rest := [.int r]) C dL_law_515 rfl (c_X8_due _ _ _ _ μ1 (r, μ2) h2) gvL_51 ⟨⟨rfl, rfl⟩, Nat.le_of_ble_eq_true rfl, Nat.le_of_ble_eq_true rfl⟩ rfl is_113 rfl rfl (Nat.le_of_ble_eq_true rfl) ?_
  refine j_icmp_eq (tgt := 1472) C dL_law_518 rfl (by decide) (fun _ => ?_) (fun q => absurd rfl q)
  exact k μ2 h3
set_option maxHeartbeats 4000000 in
set_option maxRecDepth 100000 in
theorem lc_rule {Γ : jG} {I : Mem → Prop} {L j : Nat} {xs : Nat → Int32} (C : jC Γ 4 cL_law RL room_1) (S : jX Γ L xs) (hL : L ≤ 384) (hj : j + 6 ≤ L) (ok : ok_rule I) (μ : Mem) (hI : I μ) (k : ∀ μ2, I μ2 → jJ Γ 4 1472 [(3, .int (nI j)), (2, .ref 113), (1, .ref 0), (0, .ref 3000)] [] μ2) : jJ Γ 4 523 [(3, .int (nI j)), (2, .ref 113), (1, .ref 0), (0, .ref 3000)] [] μ := by
  obtain ⟨r, μ1, μ2, h1, h2, h3⟩ := ok (xs (j + 1)) (xs (j + 2)) μ hI
  refine j_aload_n C dL_law_523 rfl 2 rfl ?_
  refine j_aload_n C dL_law_524 rfl 3 rfl ?_
  refine j_iload_n C dL_law_525 rfl 0 rfl ?_
  refine j_iconst (v := 1) C dL_law_526 rfl (by decide) ?_
  refine j_iaddv (v := nI (j + 1)) C dL_law_527 rfl (nI_add j 1) ?_
  refine j_sld (j := j + 1) C S dL_law_528 rfl (by omega) hL ?_
  refine j_aload_n C dL_law_529 rfl 3 rfl ?_
  refine j_iload_n C dL_law_530 rfl 0 rfl ?_
  refine j_iconst (v := 2) C dL_law_531 rfl (by decide) ?_
  refine j_iaddv (v := nI (j + 2)) C dL_law_532 rfl (nI_add j 2) ?_
  refine j_sld (j := j + 2) C S dL_law_533 rfl (by omega) hL ?_
  refine j_cVI (av := [.int (xs (j + 1)), .int (xs (j + 2))]) (rest := []) C dL_law_534 rfl (c_X7_rule _ _ _ _ μ (r, μ1) h1) gvL_52 ⟨⟨rfl, rfl⟩, Nat.le_of_ble_eq_true rfl, Nat.le_of_ble_eq_true rfl⟩ rfl is_0 rfl rfl (Nat.le_of_ble_eq_true rfl) ?_
  refine j_aload_n C dL_law_537 rfl 1 rfl ?_
  refine j_aload_n C dL_law_538 rfl 3 rfl ?_
  refine j_iload_n C dL_law_539 rfl 0 rfl ?_
  refine j_iconst (v := 1) C dL_law_540 rfl (by decide) ?_
  refine j_iaddv (v := nI (j + 1)) C dL_law_541 rfl (nI_add j 1) ?_
  refine j_sld (j := j + 1) C S dL_law_542 rfl (by omega) hL ?_
  refine j_aload_n C dL_law_543 rfl 3 rfl ?_
  refine j_iload_n C dL_law_544 rfl 0 rfl ?_
  refine j_iconst (v := 2) C dL_law_545 rfl (by decide) ?_
  refine j_iaddv (v := nI (j + 2)) C dL_law_546 rfl (nI_add j 2) ?_
  refine j_sld (j := j + 2) C S dL_law_547 rfl (by omega) hL ?_
  refine j_cVI (av := [.int (xs (j + 1)), .int (xs (j + 2))]) (rest := [.int r]) C dL_law_548 rfl (c_X8_rule _ _ _ _ μ1 (r, μ2) h2) gvL_55 ⟨⟨rfl, rfl⟩, Nat.le_of_ble_eq_true rfl, Nat.le_of_ble_eq_true rfl⟩ rfl is_113 rfl rfl (Nat.le_of_ble_eq_true rfl) ?_
  refine j_icmp_eq (tgt := 1472) C dL_law_551 rfl (by decide) (fun _ => ?_) (fun q => absurd rfl q)
  exact k μ2 h3
set_option maxHeartbeats 4000000 in
set_option maxRecDepth 100000 in
theorem lc_add {Γ : jG} {I : Mem → Prop} {L j : Nat} {xs : Nat → Int32} (C : jC Γ 4 cL_law RL room_1) (S : jX Γ L xs) (hL : L ≤ 384) (hj : j + 6 ≤ L) (ok : ok_add I) (μ : Mem) (hI : I μ) (k : ∀ μ2, I μ2 → jJ Γ 4 1472 [(3, .int (nI j)), (2, .ref 113), (1, .ref 0), (0, .ref 3000)] [] μ2) : jJ Γ 4 556 [(3, .int (nI j)), (2, .ref 113), (1, .ref 0), (0, .ref 3000)] [] μ := by
  obtain ⟨r, μ1, μ2, h1, h2, h3⟩ := ok (xs (j + 1)) (xs (j + 2)) (xs (j + 3)) (xs (j + 4)) μ hI
  refine j_aload_n C dL_law_556 rfl 2 rfl ?_
  refine j_aload_n C dL_law_557 rfl 3 rfl ?_
  refine j_iload_n C dL_law_558 rfl 0 rfl ?_
  refine j_iconst (v := 1) C dL_law_559 rfl (by decide) ?_
  refine j_iaddv (v := nI (j + 1)) C dL_law_560 rfl (nI_add j 1) ?_
  refine j_sld (j := j + 1) C S dL_law_561 rfl (by omega) hL ?_
  refine j_aload_n C dL_law_562 rfl 3 rfl ?_
  refine j_iload_n C dL_law_563 rfl 0 rfl ?_
  refine j_iconst (v := 2) C dL_law_564 rfl (by decide) ?_
  refine j_iaddv (v := nI (j + 2)) C dL_law_565 rfl (nI_add j 2) ?_
  refine j_sld (j := j + 2) C S dL_law_566 rfl (by omega) hL ?_
  refine j_aload_n C dL_law_567 rfl 3 rfl ?_
  refine j_iload_n C dL_law_568 rfl 0 rfl ?_
  refine j_iconst (v := 3) C dL_law_569 rfl (by decide) ?_
  refine j_iaddv (v := nI (j + 3)) C dL_law_570 rfl (nI_add j 3) ?_
  refine j_sld (j := j + 3) C S dL_law_571 rfl (by omega) hL ?_
  refine j_aload_n C dL_law_572 rfl 3 rfl ?_
  refine j_iload_n C dL_law_573 rfl 0 rfl ?_
  refine j_iconst (v := 4) C dL_law_574 rfl (by decide) ?_
  refine j_iaddv (v := nI (j + 4)) C dL_law_575 rfl (nI_add j 4) ?_
  refine j_sld (j := j + 4) C S dL_law_576 rfl (by omega) hL ?_
  refine j_cVI (av := [.int (xs (j + 1)), .int (xs (j + 2)), .int (xs (j + 3)), .int (xs (j + 4))]) (rest := []) C dL_law_577 rfl (c_X7_add _ _ _ _ μ (r, μ1) h1) gvL_56 ⟨⟨rfl, rfl⟩, Nat.le_of_ble_eq_true rfl, Nat.le_of_ble_eq_true rfl⟩ rfl is_0 rfl rfl (Nat.le_of_ble_eq_true rfl) ?_
  refine j_aload_n C dL_law_580 rfl 1 rfl ?_
  refine j_aload_n C dL_law_581 rfl 3 rfl ?_
  refine j_iload_n C dL_law_582 rfl 0 rfl ?_
  refine j_iconst (v := 1) C dL_law_583 rfl (by decide) ?_
  refine j_iaddv (v := nI (j + 1)) C dL_law_584 rfl (nI_add j 1) ?_
  refine j_sld (j := j + 1) C S dL_law_585 rfl (by omega) hL ?_
  refine j_aload_n C dL_law_586 rfl 3 rfl ?_
  refine j_iload_n C dL_law_587 rfl 0 rfl ?_
  refine j_iconst (v := 2) C dL_law_588 rfl (by decide) ?_
  refine j_iaddv (v := nI (j + 2)) C dL_law_589 rfl (nI_add j 2) ?_
  refine j_sld (j := j + 2) C S dL_law_590 rfl (by omega) hL ?_
  refine j_aload_n C dL_law_591 rfl 3 rfl ?_
  refine j_iload_n C dL_law_592 rfl 0 rfl ?_
  refine j_iconst (v := 3) C dL_law_593 rfl (by decide) ?_
  refine j_iaddv (v := nI (j + 3)) C dL_law_594 rfl (nI_add j 3) ?_
  refine j_sld (j := j + 3) C S dL_law_595 rfl (by omega) hL ?_
  refine j_aload_n C dL_law_596 rfl 3 rfl ?_
  refine j_iload_n C dL_law_597 rfl 0 rfl ?_
  refine j_iconst (v := 4) C dL_law_598 rfl (by decide) ?_
  refine j_iaddv (v := nI (j + 4)) C dL_law_599 rfl (nI_add j 4) ?_
  refine j_sld (j := j + 4) C S dL_law_600 rfl (by omega) hL ?_
  refine j_cVI (av := [.int (xs (j + 1)), .int (xs (j + 2)), .int (xs (j + 3)), .int (xs (j + 4))]) (rest := [.int r]) C dL_law_601 rfl (c_X8_add _ _ _ _ μ1 (r, μ2) h2) gvL_60 ⟨⟨rfl, rfl⟩, Nat.le_of_ble_eq_true rfl, Nat.le_of_ble_eq_true rfl⟩ rfl is_113 rfl rfl (Nat.le_of_ble_eq_true rfl) ?_
  refine j_icmp_eq (tgt := 1472) C dL_law_604 rfl (by decide) (fun _ => ?_) (fun q => absurd rfl q)
  exact k μ2 h3
set_option maxHeartbeats 4000000 in
set_option maxRecDepth 100000 in
theorem lc_type {Γ : jG} {I : Mem → Prop} {L j : Nat} {xs : Nat → Int32} (C : jC Γ 4 cL_law RL room_1) (S : jX Γ L xs) (hL : L ≤ 384) (hj : j + 6 ≤ L) (ok : ok_type I) (μ : Mem) (hI : I μ) (k : ∀ μ2, I μ2 → jJ Γ 4 1472 [(3, .int (nI j)), (2, .ref 113), (1, .ref 0), (0, .ref 3000)] [] μ2) : jJ Γ 4 609 [(3, .int (nI j)), (2, .ref 113), (1, .ref 0), (0, .ref 3000)] [] μ := by
  obtain ⟨r, μ1, μ2, h1, h2, h3⟩ := ok (xs (j + 1)) μ hI
  refine j_aload_n C dL_law_609 rfl 2 rfl ?_
  refine j_aload_n C dL_law_610 rfl 3 rfl ?_
  refine j_iload_n C dL_law_611 rfl 0 rfl ?_
  refine j_iconst (v := 1) C dL_law_612 rfl (by decide) ?_
  refine j_iaddv (v := nI (j + 1)) C dL_law_613 rfl (nI_add j 1) ?_
  refine j_sld (j := j + 1) C S dL_law_614 rfl (by omega) hL ?_
  refine j_cVI (av := [.int (xs (j + 1))]) (rest := []) C dL_law_615 rfl (c_X7_type _ _ _ _ μ (r, μ1) h1) gvL_61 ⟨⟨rfl, rfl⟩, Nat.le_of_ble_eq_true rfl, Nat.le_of_ble_eq_true rfl⟩ rfl is_0 rfl rfl (Nat.le_of_ble_eq_true rfl) ?_
  refine j_aload_n C dL_law_618 rfl 1 rfl ?_
  refine j_aload_n C dL_law_619 rfl 3 rfl ?_
  refine j_iload_n C dL_law_620 rfl 0 rfl ?_
  refine j_iconst (v := 1) C dL_law_621 rfl (by decide) ?_
  refine j_iaddv (v := nI (j + 1)) C dL_law_622 rfl (nI_add j 1) ?_
  refine j_sld (j := j + 1) C S dL_law_623 rfl (by omega) hL ?_
  refine j_cVI (av := [.int (xs (j + 1))]) (rest := [.int r]) C dL_law_624 rfl (c_X8_type _ _ _ _ μ1 (r, μ2) h2) gvL_65 ⟨⟨rfl, rfl⟩, Nat.le_of_ble_eq_true rfl, Nat.le_of_ble_eq_true rfl⟩ rfl is_113 rfl rfl (Nat.le_of_ble_eq_true rfl) ?_
  refine j_icmp_eq (tgt := 1472) C dL_law_627 rfl (by decide) (fun _ => ?_) (fun q => absurd rfl q)
  exact k μ2 h3
set_option maxHeartbeats 4000000 in
set_option maxRecDepth 100000 in
theorem lc_laws {Γ : jG} {I : Mem → Prop} {L j : Nat} {xs : Nat → Int32} (C : jC Γ 4 cL_law RL room_1) (S : jX Γ L xs) (hL : L ≤ 384) (hj : j + 6 ≤ L) (ok : ok_laws I) (μ : Mem) (hI : I μ) (k : ∀ μ2, I μ2 → jJ Γ 4 1472 [(3, .int (nI j)), (2, .ref 113), (1, .ref 0), (0, .ref 3000)] [] μ2) : jJ Γ 4 632 [(3, .int (nI j)), (2, .ref 113), (1, .ref 0), (0, .ref 3000)] [] μ := by
  obtain ⟨r, μ1, μ2, h1, h2, h3⟩ := ok μ hI
  refine j_aload_n C dL_law_632 rfl 2 rfl ?_
  refine j_cVI (av := []) (rest := []) C dL_law_633 rfl (c_X7_laws _ _ _ _ μ (r, μ1) h1) gvL_66 ⟨⟨rfl, rfl⟩, Nat.le_of_ble_eq_true rfl, Nat.le_of_ble_eq_true rfl⟩ rfl is_0 rfl rfl (Nat.le_of_ble_eq_true rfl) ?_
  refine j_aload_n C dL_law_636 rfl 1 rfl ?_
  refine j_cVI (av := []) (rest := [.int r]) C dL_law_637 rfl (c_X8_laws _ _ _ _ μ1 (r, μ2) h2) gvL_69 ⟨⟨rfl, rfl⟩, Nat.le_of_ble_eq_true rfl, Nat.le_of_ble_eq_true rfl⟩ rfl is_113 rfl rfl (Nat.le_of_ble_eq_true rfl) ?_
  refine j_icmp_eq (tgt := 1472) C dL_law_640 rfl (by decide) (fun _ => ?_) (fun q => absurd rfl q)
  exact k μ2 h3
set_option maxHeartbeats 4000000 in
set_option maxRecDepth 100000 in
theorem lc_rocks {Γ : jG} {I : Mem → Prop} {L j : Nat} {xs : Nat → Int32} (C : jC Γ 4 cL_law RL room_1) (S : jX Γ L xs) (hL : L ≤ 384) (hj : j + 6 ≤ L) (ok : ok_rocks I) (μ : Mem) (hI : I μ) (k : ∀ μ2, I μ2 → jJ Γ 4 1472 [(3, .int (nI j)), (2, .ref 113), (1, .ref 0), (0, .ref 3000)] [] μ2) : jJ Γ 4 645 [(3, .int (nI j)), (2, .ref 113), (1, .ref 0), (0, .ref 3000)] [] μ := by
  obtain ⟨r, μ1, μ2, h1, h2, h3⟩ := ok μ hI
  refine j_aload_n C dL_law_645 rfl 2 rfl ?_
  refine j_cVI (av := []) (rest := []) C dL_law_646 rfl (c_X7_rocks _ _ _ _ μ (r, μ1) h1) gvL_70 ⟨⟨rfl, rfl⟩, Nat.le_of_ble_eq_true rfl, Nat.le_of_ble_eq_true rfl⟩ rfl is_0 rfl rfl (Nat.le_of_ble_eq_true rfl) ?_
  refine j_aload_n C dL_law_649 rfl 1 rfl ?_
  refine j_cVI (av := []) (rest := [.int r]) C dL_law_650 rfl (c_X8_rocks _ _ _ _ μ1 (r, μ2) h2) gvL_73 ⟨⟨rfl, rfl⟩, Nat.le_of_ble_eq_true rfl, Nat.le_of_ble_eq_true rfl⟩ rfl is_113 rfl rfl (Nat.le_of_ble_eq_true rfl) ?_
  refine j_icmp_eq (tgt := 1472) C dL_law_653 rfl (by decide) (fun _ => ?_) (fun q => absurd rfl q)
  exact k μ2 h3
set_option maxHeartbeats 4000000 in
set_option maxRecDepth 100000 in
theorem lc_count {Γ : jG} {I : Mem → Prop} {L j : Nat} {xs : Nat → Int32} (C : jC Γ 4 cL_law RL room_1) (S : jX Γ L xs) (hL : L ≤ 384) (hj : j + 6 ≤ L) (ok : ok_count I) (μ : Mem) (hI : I μ) (k : ∀ μ2, I μ2 → jJ Γ 4 1472 [(3, .int (nI j)), (2, .ref 113), (1, .ref 0), (0, .ref 3000)] [] μ2) : jJ Γ 4 658 [(3, .int (nI j)), (2, .ref 113), (1, .ref 0), (0, .ref 3000)] [] μ := by
  obtain ⟨r, μ1, μ2, h1, h2, h3⟩ := ok (xs (j + 1)) μ hI
  refine j_aload_n C dL_law_658 rfl 2 rfl ?_
  refine j_aload_n C dL_law_659 rfl 3 rfl ?_
  refine j_iload_n C dL_law_660 rfl 0 rfl ?_
  refine j_iconst (v := 1) C dL_law_661 rfl (by decide) ?_
  refine j_iaddv (v := nI (j + 1)) C dL_law_662 rfl (nI_add j 1) ?_
  refine j_sld (j := j + 1) C S dL_law_663 rfl (by omega) hL ?_
  refine j_cVI (av := [.int (xs (j + 1))]) (rest := []) C dL_law_664 rfl (c_X7_count _ _ _ _ μ (r, μ1) h1) gvL_74 ⟨⟨rfl, rfl⟩, Nat.le_of_ble_eq_true rfl, Nat.le_of_ble_eq_true rfl⟩ rfl is_0 rfl rfl (Nat.le_of_ble_eq_true rfl) ?_
  refine j_aload_n C dL_law_667 rfl 1 rfl ?_
  refine j_aload_n C dL_law_668 rfl 3 rfl ?_
  refine j_iload_n C dL_law_669 rfl 0 rfl ?_
  refine j_iconst (v := 1) C dL_law_670 rfl (by decide) ?_
  refine j_iaddv (v := nI (j + 1)) C dL_law_671 rfl (nI_add j 1) ?_
  refine j_sld (j := j + 1) C S dL_law_672 rfl (by omega) hL ?_
  refine j_cVI (av := [.int (xs (j + 1))]) (rest := [.int r]) C dL_law_673 rfl (c_X8_count _ _ _ _ μ1 (r, μ2) h2) gvL_77 ⟨⟨rfl, rfl⟩, Nat.le_of_ble_eq_true rfl, Nat.le_of_ble_eq_true rfl⟩ rfl is_113 rfl rfl (Nat.le_of_ble_eq_true rfl) ?_
  refine j_icmp_eq (tgt := 1472) C dL_law_676 rfl (by decide) (fun _ => ?_) (fun q => absurd rfl q)
  exact k μ2 h3
set_option maxHeartbeats 4000000 in
set_option maxRecDepth 100000 in
theorem lc_minute {Γ : jG} {I : Mem → Prop} {L j : Nat} {xs : Nat → Int32} (C : jC Γ 4 cL_law RL room_1) (S : jX Γ L xs) (hL : L ≤ 384) (hj : j + 6 ≤ L) (ok : ok_minute I) (μ : Mem) (hI : I μ) (k : ∀ μ2, I μ2 → jJ Γ 4 1472 [(3, .int (nI j)), (2, .ref 113), (1, .ref 0), (0, .ref 3000)] [] μ2) : jJ Γ 4 681 [(3, .int (nI j)), (2, .ref 113), (1, .ref 0), (0, .ref 3000)] [] μ := by
  obtain ⟨r, μ1, μ2, h1, h2, h3⟩ := ok μ hI
  refine j_aload_n C dL_law_681 rfl 2 rfl ?_
  refine j_cVI (av := []) (rest := []) C dL_law_682 rfl (c_X7_minute _ _ _ _ μ (r, μ1) h1) gvL_78 ⟨⟨rfl, rfl⟩, Nat.le_of_ble_eq_true rfl, Nat.le_of_ble_eq_true rfl⟩ rfl is_0 rfl rfl (Nat.le_of_ble_eq_true rfl) ?_
  refine j_aload_n C dL_law_685 rfl 1 rfl ?_
  refine j_cVI (av := []) (rest := [.int r]) C dL_law_686 rfl (c_X8_minute _ _ _ _ μ1 (r, μ2) h2) gvL_81 ⟨⟨rfl, rfl⟩, Nat.le_of_ble_eq_true rfl, Nat.le_of_ble_eq_true rfl⟩ rfl is_113 rfl rfl (Nat.le_of_ble_eq_true rfl) ?_
  refine j_icmp_eq (tgt := 1472) C dL_law_689 rfl (by decide) (fun _ => ?_) (fun q => absurd rfl q)
  exact k μ2 h3
set_option maxHeartbeats 4000000 in
set_option maxRecDepth 100000 in
theorem lc_night {Γ : jG} {I : Mem → Prop} {L j : Nat} {xs : Nat → Int32} (C : jC Γ 4 cL_law RL room_1) (S : jX Γ L xs) (hL : L ≤ 384) (hj : j + 6 ≤ L) (ok : ok_night I) (μ : Mem) (hI : I μ) (k : ∀ μ2, I μ2 → jJ Γ 4 1472 [(3, .int (nI j)), (2, .ref 113), (1, .ref 0), (0, .ref 3000)] [] μ2) : jJ Γ 4 694 [(3, .int (nI j)), (2, .ref 113), (1, .ref 0), (0, .ref 3000)] [] μ := by
  obtain ⟨r, μ1, μ2, h1, h2, h3⟩ := ok (xs (j + 1)) μ hI
  refine j_aload_n C dL_law_694 rfl 2 rfl ?_
  refine j_aload_n C dL_law_695 rfl 3 rfl ?_
  refine j_iload_n C dL_law_696 rfl 0 rfl ?_
  refine j_iconst (v := 1) C dL_law_697 rfl (by decide) ?_
  refine j_iaddv (v := nI (j + 1)) C dL_law_698 rfl (nI_add j 1) ?_
  refine j_sld (j := j + 1) C S dL_law_699 rfl (by omega) hL ?_
  refine j_cVI (av := [.int (xs (j + 1))]) (rest := []) C dL_law_700 rfl (c_X7_night _ _ _ _ μ (r, μ1) h1) gvL_82 ⟨⟨rfl, rfl⟩, Nat.le_of_ble_eq_true rfl, Nat.le_of_ble_eq_true rfl⟩ rfl is_0 rfl rfl (Nat.le_of_ble_eq_true rfl) ?_
  refine j_aload_n C dL_law_703 rfl 1 rfl ?_
  refine j_aload_n C dL_law_704 rfl 3 rfl ?_
  refine j_iload_n C dL_law_705 rfl 0 rfl ?_
  refine j_iconst (v := 1) C dL_law_706 rfl (by decide) ?_
  refine j_iaddv (v := nI (j + 1)) C dL_law_707 rfl (nI_add j 1) ?_
  refine j_sld (j := j + 1) C S dL_law_708 rfl (by omega) hL ?_
  refine j_cVI (av := [.int (xs (j + 1))]) (rest := [.int r]) C dL_law_709 rfl (c_X8_night _ _ _ _ μ1 (r, μ2) h2) gvL_85 ⟨⟨rfl, rfl⟩, Nat.le_of_ble_eq_true rfl, Nat.le_of_ble_eq_true rfl⟩ rfl is_113 rfl rfl (Nat.le_of_ble_eq_true rfl) ?_
  refine j_icmp_eq (tgt := 1472) C dL_law_712 rfl (by decide) (fun _ => ?_) (fun q => absurd rfl q)
  exact k μ2 h3
set_option maxHeartbeats 4000000 in
set_option maxRecDepth 100000 in
theorem lc_lots {Γ : jG} {I : Mem → Prop} {L j : Nat} {xs : Nat → Int32} (C : jC Γ 4 cL_law RL room_1) (S : jX Γ L xs) (hL : L ≤ 384) (hj : j + 6 ≤ L) (ok : ok_lots I) (μ : Mem) (hI : I μ) (k : ∀ μ2, I μ2 → jJ Γ 4 1472 [(3, .int (nI j)), (2, .ref 113), (1, .ref 0), (0, .ref 3000)] [] μ2) : jJ Γ 4 717 [(3, .int (nI j)), (2, .ref 113), (1, .ref 0), (0, .ref 3000)] [] μ := by
  obtain ⟨r, μ1, μ2, h1, h2, h3⟩ := ok (xs (j + 1)) μ hI
  refine j_aload_n C dL_law_717 rfl 2 rfl ?_
  refine j_aload_n C dL_law_718 rfl 3 rfl ?_
  refine j_iload_n C dL_law_719 rfl 0 rfl ?_
  refine j_iconst (v := 1) C dL_law_720 rfl (by decide) ?_
  refine j_iaddv (v := nI (j + 1)) C dL_law_721 rfl (nI_add j 1) ?_
  refine j_sld (j := j + 1) C S dL_law_722 rfl (by omega) hL ?_
  refine j_cVI (av := [.int (xs (j + 1))]) (rest := []) C dL_law_723 rfl (c_X7_lots _ _ _ _ μ (r, μ1) h1) gvL_86 ⟨⟨rfl, rfl⟩, Nat.le_of_ble_eq_true rfl, Nat.le_of_ble_eq_true rfl⟩ rfl is_0 rfl rfl (Nat.le_of_ble_eq_true rfl) ?_
  refine j_aload_n C dL_law_726 rfl 1 rfl ?_
  refine j_aload_n C dL_law_727 rfl 3 rfl ?_
  refine j_iload_n C dL_law_728 rfl 0 rfl ?_
  refine j_iconst (v := 1) C dL_law_729 rfl (by decide) ?_
  refine j_iaddv (v := nI (j + 1)) C dL_law_730 rfl (nI_add j 1) ?_
  refine j_sld (j := j + 1) C S dL_law_731 rfl (by omega) hL ?_
  refine j_cVI (av := [.int (xs (j + 1))]) (rest := [.int r]) C dL_law_732 rfl (c_X8_lots _ _ _ _ μ1 (r, μ2) h2) gvL_89 ⟨⟨rfl, rfl⟩, Nat.le_of_ble_eq_true rfl, Nat.le_of_ble_eq_true rfl⟩ rfl is_113 rfl rfl (Nat.le_of_ble_eq_true rfl) ?_
  refine j_icmp_eq (tgt := 1472) C dL_law_735 rfl (by decide) (fun _ => ?_) (fun q => absurd rfl q)
  exact k μ2 h3
set_option maxHeartbeats 4000000 in
set_option maxRecDepth 100000 in
theorem lc_seed {Γ : jG} {I : Mem → Prop} {L j : Nat} {xs : Nat → Int32} (C : jC Γ 4 cL_law RL room_1) (S : jX Γ L xs) (hL : L ≤ 384) (hj : j + 6 ≤ L) (ok : ok_seed I) (μ : Mem) (hI : I μ) (k : ∀ μ2, I μ2 → jJ Γ 4 1472 [(3, .int (nI j)), (2, .ref 113), (1, .ref 0), (0, .ref 3000)] [] μ2) : jJ Γ 4 740 [(3, .int (nI j)), (2, .ref 113), (1, .ref 0), (0, .ref 3000)] [] μ := by
  obtain ⟨r, μ1, μ2, h1, h2, h3⟩ := ok (xs (j + 1)) μ hI
  refine j_aload_n C dL_law_740 rfl 2 rfl ?_
  refine j_aload_n C dL_law_741 rfl 3 rfl ?_
  refine j_iload_n C dL_law_742 rfl 0 rfl ?_
  refine j_iconst (v := 1) C dL_law_743 rfl (by decide) ?_
  refine j_iaddv (v := nI (j + 1)) C dL_law_744 rfl (nI_add j 1) ?_
  refine j_sld (j := j + 1) C S dL_law_745 rfl (by omega) hL ?_
  refine j_cVI (av := [.int (xs (j + 1))]) (rest := []) C dL_law_746 rfl (c_X7_seed _ _ _ _ μ (r, μ1) h1) gvL_90 ⟨⟨rfl, rfl⟩, Nat.le_of_ble_eq_true rfl, Nat.le_of_ble_eq_true rfl⟩ rfl is_0 rfl rfl (Nat.le_of_ble_eq_true rfl) ?_
  refine j_aload_n C dL_law_749 rfl 1 rfl ?_
  refine j_aload_n C dL_law_750 rfl 3 rfl ?_
  refine j_iload_n C dL_law_751 rfl 0 rfl ?_
  refine j_iconst (v := 1) C dL_law_752 rfl (by decide) ?_
  refine j_iaddv (v := nI (j + 1)) C dL_law_753 rfl (nI_add j 1) ?_
  refine j_sld (j := j + 1) C S dL_law_754 rfl (by omega) hL ?_
  refine j_cVI (av := [.int (xs (j + 1))]) (rest := [.int r]) C dL_law_755 rfl (c_X8_seed _ _ _ _ μ1 (r, μ2) h2) gvL_93 ⟨⟨rfl, rfl⟩, Nat.le_of_ble_eq_true rfl, Nat.le_of_ble_eq_true rfl⟩ rfl is_113 rfl rfl (Nat.le_of_ble_eq_true rfl) ?_
  refine j_icmp_eq (tgt := 1472) C dL_law_758 rfl (by decide) (fun _ => ?_) (fun q => absurd rfl q)
  exact k μ2 h3
set_option maxHeartbeats 4000000 in
set_option maxRecDepth 100000 in
theorem lc_behind {Γ : jG} {I : Mem → Prop} {L j : Nat} {xs : Nat → Int32} (C : jC Γ 4 cL_law RL room_1) (S : jX Γ L xs) (hL : L ≤ 384) (hj : j + 6 ≤ L) (ok : ok_behind I) (μ : Mem) (hI : I μ) (k : ∀ μ2, I μ2 → jJ Γ 4 1472 [(3, .int (nI j)), (2, .ref 113), (1, .ref 0), (0, .ref 3000)] [] μ2) : jJ Γ 4 763 [(3, .int (nI j)), (2, .ref 113), (1, .ref 0), (0, .ref 3000)] [] μ := by
  obtain ⟨r, μ1, μ2, h1, h2, h3⟩ := ok (xs (j + 1)) (xs (j + 2)) (xs (j + 3)) μ hI
  refine j_aload_n C dL_law_763 rfl 2 rfl ?_
  refine j_aload_n C dL_law_764 rfl 3 rfl ?_
  refine j_iload_n C dL_law_765 rfl 0 rfl ?_
  refine j_iconst (v := 1) C dL_law_766 rfl (by decide) ?_
  refine j_iaddv (v := nI (j + 1)) C dL_law_767 rfl (nI_add j 1) ?_
  refine j_sld (j := j + 1) C S dL_law_768 rfl (by omega) hL ?_
  refine j_aload_n C dL_law_769 rfl 3 rfl ?_
  refine j_iload_n C dL_law_770 rfl 0 rfl ?_
  refine j_iconst (v := 2) C dL_law_771 rfl (by decide) ?_
  refine j_iaddv (v := nI (j + 2)) C dL_law_772 rfl (nI_add j 2) ?_
  refine j_sld (j := j + 2) C S dL_law_773 rfl (by omega) hL ?_
  refine j_aload_n C dL_law_774 rfl 3 rfl ?_
  refine j_iload_n C dL_law_775 rfl 0 rfl ?_
  refine j_iconst (v := 3) C dL_law_776 rfl (by decide) ?_
  refine j_iaddv (v := nI (j + 3)) C dL_law_777 rfl (nI_add j 3) ?_
  refine j_sld (j := j + 3) C S dL_law_778 rfl (by omega) hL ?_
  refine j_cVI (av := [.int (xs (j + 1)), .int (xs (j + 2)), .int (xs (j + 3))]) (rest := []) C dL_law_779 rfl (c_X7_behind _ _ _ _ μ (r, μ1) h1) gvL_94 ⟨⟨rfl, rfl⟩, Nat.le_of_ble_eq_true rfl, Nat.le_of_ble_eq_true rfl⟩ rfl is_0 rfl rfl (Nat.le_of_ble_eq_true rfl) ?_
  refine j_aload_n C dL_law_782 rfl 1 rfl ?_
  refine j_aload_n C dL_law_783 rfl 3 rfl ?_
  refine j_iload_n C dL_law_784 rfl 0 rfl ?_
  refine j_iconst (v := 1) C dL_law_785 rfl (by decide) ?_
  refine j_iaddv (v := nI (j + 1)) C dL_law_786 rfl (nI_add j 1) ?_
  refine j_sld (j := j + 1) C S dL_law_787 rfl (by omega) hL ?_
  refine j_aload_n C dL_law_788 rfl 3 rfl ?_
  refine j_iload_n C dL_law_789 rfl 0 rfl ?_
  refine j_iconst (v := 2) C dL_law_790 rfl (by decide) ?_
  refine j_iaddv (v := nI (j + 2)) C dL_law_791 rfl (nI_add j 2) ?_
  refine j_sld (j := j + 2) C S dL_law_792 rfl (by omega) hL ?_
  refine j_aload_n C dL_law_793 rfl 3 rfl ?_
  refine j_iload_n C dL_law_794 rfl 0 rfl ?_
  refine j_iconst (v := 3) C dL_law_795 rfl (by decide) ?_
  refine j_iaddv (v := nI (j + 3)) C dL_law_796 rfl (nI_add j 3) ?_
  refine j_sld (j := j + 3) C S dL_law_797 rfl (by omega) hL ?_
  refine j_cVI (av := [.int (xs (j + 1)), .int (xs (j + 2)), .int (xs (j + 3))]) (rest := [.int r]) C dL_law_798 rfl (c_X8_behind _ _ _ _ μ1 (r, μ2) h2) gvL_97 ⟨⟨rfl, rfl⟩, Nat.le_of_ble_eq_true rfl, Nat.le_of_ble_eq_true rfl⟩ rfl is_113 rfl rfl (Nat.le_of_ble_eq_true rfl) ?_
  refine j_icmp_eq (tgt := 1472) C dL_law_801 rfl (by decide) (fun _ => ?_) (fun q => absurd rfl q)
  exact k μ2 h3
set_option maxHeartbeats 4000000 in
set_option maxRecDepth 100000 in
theorem lc_when {Γ : jG} {I : Mem → Prop} {L j : Nat} {xs : Nat → Int32} (C : jC Γ 4 cL_law RL room_1) (S : jX Γ L xs) (hL : L ≤ 384) (hj : j + 6 ≤ L) (ok : ok_when I) (μ : Mem) (hI : I μ) (k : ∀ μ2, I μ2 → jJ Γ 4 1472 [(3, .int (nI j)), (2, .ref 113), (1, .ref 0), (0, .ref 3000)] [] μ2) : jJ Γ 4 806 [(3, .int (nI j)), (2, .ref 113), (1, .ref 0), (0, .ref 3000)] [] μ := by
  obtain ⟨r, μ1, μ2, h1, h2, h3⟩ := ok (xs (j + 1)) μ hI
  refine j_aload_n C dL_law_806 rfl 2 rfl ?_
  refine j_aload_n C dL_law_807 rfl 3 rfl ?_
  refine j_iload_n C dL_law_808 rfl 0 rfl ?_
  refine j_iconst (v := 1) C dL_law_809 rfl (by decide) ?_
  refine j_iaddv (v := nI (j + 1)) C dL_law_810 rfl (nI_add j 1) ?_
  refine j_sld (j := j + 1) C S dL_law_811 rfl (by omega) hL ?_
  refine j_cVI (av := [.int (xs (j + 1))]) (rest := []) C dL_law_812 rfl (c_X7_when _ _ _ _ μ (r, μ1) h1) gvL_98 ⟨⟨rfl, rfl⟩, Nat.le_of_ble_eq_true rfl, Nat.le_of_ble_eq_true rfl⟩ rfl is_0 rfl rfl (Nat.le_of_ble_eq_true rfl) ?_
  refine j_aload_n C dL_law_815 rfl 1 rfl ?_
  refine j_aload_n C dL_law_816 rfl 3 rfl ?_
  refine j_iload_n C dL_law_817 rfl 0 rfl ?_
  refine j_iconst (v := 1) C dL_law_818 rfl (by decide) ?_
  refine j_iaddv (v := nI (j + 1)) C dL_law_819 rfl (nI_add j 1) ?_
  refine j_sld (j := j + 1) C S dL_law_820 rfl (by omega) hL ?_
  refine j_cVI (av := [.int (xs (j + 1))]) (rest := [.int r]) C dL_law_821 rfl (c_X8_when _ _ _ _ μ1 (r, μ2) h2) gvL_101 ⟨⟨rfl, rfl⟩, Nat.le_of_ble_eq_true rfl, Nat.le_of_ble_eq_true rfl⟩ rfl is_113 rfl rfl (Nat.le_of_ble_eq_true rfl) ?_
  refine j_icmp_eq (tgt := 1472) C dL_law_824 rfl (by decide) (fun _ => ?_) (fun q => absurd rfl q)
  exact k μ2 h3
set_option maxHeartbeats 4000000 in
set_option maxRecDepth 100000 in
theorem lc_darkest {Γ : jG} {I : Mem → Prop} {L j : Nat} {xs : Nat → Int32} (C : jC Γ 4 cL_law RL room_1) (S : jX Γ L xs) (hL : L ≤ 384) (hj : j + 6 ≤ L) (ok : ok_darkest I) (μ : Mem) (hI : I μ) (k : ∀ μ2, I μ2 → jJ Γ 4 1472 [(3, .int (nI j)), (2, .ref 113), (1, .ref 0), (0, .ref 3000)] [] μ2) : jJ Γ 4 829 [(3, .int (nI j)), (2, .ref 113), (1, .ref 0), (0, .ref 3000)] [] μ := by
  obtain ⟨r, μ1, μ2, h1, h2, h3⟩ := ok (xs (j + 1)) μ hI
  refine j_aload_n C dL_law_829 rfl 2 rfl ?_
  refine j_aload_n C dL_law_830 rfl 3 rfl ?_
  refine j_iload_n C dL_law_831 rfl 0 rfl ?_
  refine j_iconst (v := 1) C dL_law_832 rfl (by decide) ?_
  refine j_iaddv (v := nI (j + 1)) C dL_law_833 rfl (nI_add j 1) ?_
  refine j_sld (j := j + 1) C S dL_law_834 rfl (by omega) hL ?_
  refine j_cVI (av := [.int (xs (j + 1))]) (rest := []) C dL_law_835 rfl (c_X7_darkest _ _ _ _ μ (r, μ1) h1) gvL_102 ⟨⟨rfl, rfl⟩, Nat.le_of_ble_eq_true rfl, Nat.le_of_ble_eq_true rfl⟩ rfl is_0 rfl rfl (Nat.le_of_ble_eq_true rfl) ?_
  refine j_aload_n C dL_law_838 rfl 1 rfl ?_
  refine j_aload_n C dL_law_839 rfl 3 rfl ?_
  refine j_iload_n C dL_law_840 rfl 0 rfl ?_
  refine j_iconst (v := 1) C dL_law_841 rfl (by decide) ?_
  refine j_iaddv (v := nI (j + 1)) C dL_law_842 rfl (nI_add j 1) ?_
  refine j_sld (j := j + 1) C S dL_law_843 rfl (by omega) hL ?_
  refine j_cVI (av := [.int (xs (j + 1))]) (rest := [.int r]) C dL_law_844 rfl (c_X8_darkest _ _ _ _ μ1 (r, μ2) h2) gvL_105 ⟨⟨rfl, rfl⟩, Nat.le_of_ble_eq_true rfl, Nat.le_of_ble_eq_true rfl⟩ rfl is_113 rfl rfl (Nat.le_of_ble_eq_true rfl) ?_
  refine j_icmp_eq (tgt := 1472) C dL_law_847 rfl (by decide) (fun _ => ?_) (fun q => absurd rfl q)
  exact k μ2 h3
set_option maxHeartbeats 4000000 in
set_option maxRecDepth 100000 in
theorem lc_holds {Γ : jG} {I : Mem → Prop} {L j : Nat} {xs : Nat → Int32} (C : jC Γ 4 cL_law RL room_1) (S : jX Γ L xs) (hL : L ≤ 384) (hj : j + 6 ≤ L) (ok : ok_holds I) (μ : Mem) (hI : I μ) (k : ∀ μ2, I μ2 → jJ Γ 4 1472 [(3, .int (nI j)), (2, .ref 113), (1, .ref 0), (0, .ref 3000)] [] μ2) : jJ Γ 4 852 [(3, .int (nI j)), (2, .ref 113), (1, .ref 0), (0, .ref 3000)] [] μ := by
  obtain ⟨r, μ1, μ2, h1, h2, h3⟩ := ok (xs (j + 1)) μ hI
  refine j_aload_n C dL_law_852 rfl 2 rfl ?_
  refine j_aload_n C dL_law_853 rfl 3 rfl ?_
  refine j_iload_n C dL_law_854 rfl 0 rfl ?_
  refine j_iconst (v := 1) C dL_law_855 rfl (by decide) ?_
  refine j_iaddv (v := nI (j + 1)) C dL_law_856 rfl (nI_add j 1) ?_
  refine j_sld (j := j + 1) C S dL_law_857 rfl (by omega) hL ?_
  refine j_cVI (av := [.int (xs (j + 1))]) (rest := []) C dL_law_858 rfl (c_X7_holds _ _ _ _ μ (r, μ1) h1) gvL_106 ⟨⟨rfl, rfl⟩, Nat.le_of_ble_eq_true rfl, Nat.le_of_ble_eq_true rfl⟩ rfl is_0 rfl rfl (Nat.le_of_ble_eq_true rfl) ?_
  refine j_aload_n C dL_law_861 rfl 1 rfl ?_
  refine j_aload_n C dL_law_862 rfl 3 rfl ?_
  refine j_iload_n C dL_law_863 rfl 0 rfl ?_
  refine j_iconst (v := 1) C dL_law_864 rfl (by decide) ?_
  refine j_iaddv (v := nI (j + 1)) C dL_law_865 rfl (nI_add j 1) ?_
  refine j_sld (j := j + 1) C S dL_law_866 rfl (by omega) hL ?_
  refine j_cVI (av := [.int (xs (j + 1))]) (rest := [.int r]) C dL_law_867 rfl (c_X8_holds _ _ _ _ μ1 (r, μ2) h2) gvL_109 ⟨⟨rfl, rfl⟩, Nat.le_of_ble_eq_true rfl, Nat.le_of_ble_eq_true rfl⟩ rfl is_113 rfl rfl (Nat.le_of_ble_eq_true rfl) ?_
  refine j_icmp_eq (tgt := 1472) C dL_law_870 rfl (by decide) (fun _ => ?_) (fun q => absurd rfl q)
  exact k μ2 h3
set_option maxHeartbeats 4000000 in
set_option maxRecDepth 100000 in
theorem lc_bears {Γ : jG} {I : Mem → Prop} {L j : Nat} {xs : Nat → Int32} (C : jC Γ 4 cL_law RL room_1) (S : jX Γ L xs) (hL : L ≤ 384) (hj : j + 6 ≤ L) (ok : ok_bears I) (μ : Mem) (hI : I μ) (k : ∀ μ2, I μ2 → jJ Γ 4 1472 [(3, .int (nI j)), (2, .ref 113), (1, .ref 0), (0, .ref 3000)] [] μ2) : jJ Γ 4 875 [(3, .int (nI j)), (2, .ref 113), (1, .ref 0), (0, .ref 3000)] [] μ := by
  obtain ⟨r, μ1, μ2, h1, h2, h3⟩ := ok μ hI
  refine j_aload_n C dL_law_875 rfl 2 rfl ?_
  refine j_cVI (av := []) (rest := []) C dL_law_876 rfl (c_X7_bears _ _ _ _ μ (r, μ1) h1) gvL_110 ⟨⟨rfl, rfl⟩, Nat.le_of_ble_eq_true rfl, Nat.le_of_ble_eq_true rfl⟩ rfl is_0 rfl rfl (Nat.le_of_ble_eq_true rfl) ?_
  refine j_aload_n C dL_law_879 rfl 1 rfl ?_
  refine j_cVI (av := []) (rest := [.int r]) C dL_law_880 rfl (c_X8_bears _ _ _ _ μ1 (r, μ2) h2) gvL_113 ⟨⟨rfl, rfl⟩, Nat.le_of_ble_eq_true rfl, Nat.le_of_ble_eq_true rfl⟩ rfl is_113 rfl rfl (Nat.le_of_ble_eq_true rfl) ?_
  refine j_icmp_eq (tgt := 1472) C dL_law_883 rfl (by decide) (fun _ => ?_) (fun q => absurd rfl q)
  exact k μ2 h3
set_option maxHeartbeats 4000000 in
set_option maxRecDepth 100000 in
theorem lc_worst {Γ : jG} {I : Mem → Prop} {L j : Nat} {xs : Nat → Int32} (C : jC Γ 4 cL_law RL room_1) (S : jX Γ L xs) (hL : L ≤ 384) (hj : j + 6 ≤ L) (ok : ok_worst I) (μ : Mem) (hI : I μ) (k : ∀ μ2, I μ2 → jJ Γ 4 1472 [(3, .int (nI j)), (2, .ref 113), (1, .ref 0), (0, .ref 3000)] [] μ2) : jJ Γ 4 888 [(3, .int (nI j)), (2, .ref 113), (1, .ref 0), (0, .ref 3000)] [] μ := by
  obtain ⟨r, μ1, μ2, h1, h2, h3⟩ := ok (xs (j + 1)) μ hI
  refine j_aload_n C dL_law_888 rfl 2 rfl ?_
  refine j_aload_n C dL_law_889 rfl 3 rfl ?_
  refine j_iload_n C dL_law_890 rfl 0 rfl ?_
  refine j_iconst (v := 1) C dL_law_891 rfl (by decide) ?_
  refine j_iaddv (v := nI (j + 1)) C dL_law_892 rfl (nI_add j 1) ?_
  refine j_sld (j := j + 1) C S dL_law_893 rfl (by omega) hL ?_
  refine j_cVI (av := [.int (xs (j + 1))]) (rest := []) C dL_law_894 rfl (c_X7_worst _ _ _ _ μ (r, μ1) h1) gvL_114 ⟨⟨rfl, rfl⟩, Nat.le_of_ble_eq_true rfl, Nat.le_of_ble_eq_true rfl⟩ rfl is_0 rfl rfl (Nat.le_of_ble_eq_true rfl) ?_
  refine j_aload_n C dL_law_897 rfl 1 rfl ?_
  refine j_aload_n C dL_law_898 rfl 3 rfl ?_
  refine j_iload_n C dL_law_899 rfl 0 rfl ?_
  refine j_iconst (v := 1) C dL_law_900 rfl (by decide) ?_
  refine j_iaddv (v := nI (j + 1)) C dL_law_901 rfl (nI_add j 1) ?_
  refine j_sld (j := j + 1) C S dL_law_902 rfl (by omega) hL ?_
  refine j_cVI (av := [.int (xs (j + 1))]) (rest := [.int r]) C dL_law_903 rfl (c_X8_worst _ _ _ _ μ1 (r, μ2) h2) gvL_117 ⟨⟨rfl, rfl⟩, Nat.le_of_ble_eq_true rfl, Nat.le_of_ble_eq_true rfl⟩ rfl is_113 rfl rfl (Nat.le_of_ble_eq_true rfl) ?_
  refine j_icmp_eq (tgt := 1472) C dL_law_906 rfl (by decide) (fun _ => ?_) (fun q => absurd rfl q)
  exact k μ2 h3
set_option maxHeartbeats 4000000 in
set_option maxRecDepth 100000 in
theorem lc_least {Γ : jG} {I : Mem → Prop} {L j : Nat} {xs : Nat → Int32} (C : jC Γ 4 cL_law RL room_1) (S : jX Γ L xs) (hL : L ≤ 384) (hj : j + 6 ≤ L) (ok : ok_least I) (μ : Mem) (hI : I μ) (k : ∀ μ2, I μ2 → jJ Γ 4 1472 [(3, .int (nI j)), (2, .ref 113), (1, .ref 0), (0, .ref 3000)] [] μ2) : jJ Γ 4 911 [(3, .int (nI j)), (2, .ref 113), (1, .ref 0), (0, .ref 3000)] [] μ := by
  obtain ⟨r, μ1, μ2, h1, h2, h3⟩ := ok (xs (j + 1)) (xs (j + 2)) μ hI
  refine j_aload_n C dL_law_911 rfl 2 rfl ?_
  refine j_aload_n C dL_law_912 rfl 3 rfl ?_
  refine j_iload_n C dL_law_913 rfl 0 rfl ?_
  refine j_iconst (v := 1) C dL_law_914 rfl (by decide) ?_
  refine j_iaddv (v := nI (j + 1)) C dL_law_915 rfl (nI_add j 1) ?_
  refine j_sld (j := j + 1) C S dL_law_916 rfl (by omega) hL ?_
  refine j_aload_n C dL_law_917 rfl 3 rfl ?_
  refine j_iload_n C dL_law_918 rfl 0 rfl ?_
  refine j_iconst (v := 2) C dL_law_919 rfl (by decide) ?_
  refine j_iaddv (v := nI (j + 2)) C dL_law_920 rfl (nI_add j 2) ?_
  refine j_sld (j := j + 2) C S dL_law_921 rfl (by omega) hL ?_
  refine j_cVI (av := [.int (xs (j + 1)), .int (xs (j + 2))]) (rest := []) C dL_law_922 rfl (c_X7_least _ _ _ _ μ (r, μ1) h1) gvL_118 ⟨⟨rfl, rfl⟩, Nat.le_of_ble_eq_true rfl, Nat.le_of_ble_eq_true rfl⟩ rfl is_0 rfl rfl (Nat.le_of_ble_eq_true rfl) ?_
  refine j_aload_n C dL_law_925 rfl 1 rfl ?_
  refine j_aload_n C dL_law_926 rfl 3 rfl ?_
  refine j_iload_n C dL_law_927 rfl 0 rfl ?_
  refine j_iconst (v := 1) C dL_law_928 rfl (by decide) ?_
  refine j_iaddv (v := nI (j + 1)) C dL_law_929 rfl (nI_add j 1) ?_
  refine j_sld (j := j + 1) C S dL_law_930 rfl (by omega) hL ?_
  refine j_aload_n C dL_law_931 rfl 3 rfl ?_
  refine j_iload_n C dL_law_932 rfl 0 rfl ?_
  refine j_iconst (v := 2) C dL_law_933 rfl (by decide) ?_
  refine j_iaddv (v := nI (j + 2)) C dL_law_934 rfl (nI_add j 2) ?_
  refine j_sld (j := j + 2) C S dL_law_935 rfl (by omega) hL ?_
  refine j_cVI (av := [.int (xs (j + 1)), .int (xs (j + 2))]) (rest := [.int r]) C dL_law_936 rfl (c_X8_least _ _ _ _ μ1 (r, μ2) h2) gvL_121 ⟨⟨rfl, rfl⟩, Nat.le_of_ble_eq_true rfl, Nat.le_of_ble_eq_true rfl⟩ rfl is_113 rfl rfl (Nat.le_of_ble_eq_true rfl) ?_
  refine j_icmp_eq (tgt := 1472) C dL_law_939 rfl (by decide) (fun _ => ?_) (fun q => absurd rfl q)
  exact k μ2 h3
set_option maxHeartbeats 4000000 in
set_option maxRecDepth 100000 in
theorem lc_spare {Γ : jG} {I : Mem → Prop} {L j : Nat} {xs : Nat → Int32} (C : jC Γ 4 cL_law RL room_1) (S : jX Γ L xs) (hL : L ≤ 384) (hj : j + 6 ≤ L) (ok : ok_spare I) (μ : Mem) (hI : I μ) (k : ∀ μ2, I μ2 → jJ Γ 4 1472 [(3, .int (nI j)), (2, .ref 113), (1, .ref 0), (0, .ref 3000)] [] μ2) : jJ Γ 4 944 [(3, .int (nI j)), (2, .ref 113), (1, .ref 0), (0, .ref 3000)] [] μ := by
  obtain ⟨r, μ1, μ2, h1, h2, h3⟩ := ok μ hI
  refine j_aload_n C dL_law_944 rfl 2 rfl ?_
  refine j_cVI (av := []) (rest := []) C dL_law_945 rfl (c_X7_spare _ _ _ _ μ (r, μ1) h1) gvL_122 ⟨⟨rfl, rfl⟩, Nat.le_of_ble_eq_true rfl, Nat.le_of_ble_eq_true rfl⟩ rfl is_0 rfl rfl (Nat.le_of_ble_eq_true rfl) ?_
  refine j_aload_n C dL_law_948 rfl 1 rfl ?_
  refine j_cVI (av := []) (rest := [.int r]) C dL_law_949 rfl (c_X8_spare _ _ _ _ μ1 (r, μ2) h2) gvL_125 ⟨⟨rfl, rfl⟩, Nat.le_of_ble_eq_true rfl, Nat.le_of_ble_eq_true rfl⟩ rfl is_113 rfl rfl (Nat.le_of_ble_eq_true rfl) ?_
  refine j_icmp_eq (tgt := 1472) C dL_law_952 rfl (by decide) (fun _ => ?_) (fun q => absurd rfl q)
  exact k μ2 h3
set_option maxHeartbeats 4000000 in
set_option maxRecDepth 100000 in
theorem lc_log {Γ : jG} {I : Mem → Prop} {L j : Nat} {xs : Nat → Int32} (C : jC Γ 4 cL_law RL room_1) (S : jX Γ L xs) (hL : L ≤ 384) (hj : j + 6 ≤ L) (ok : ok_log I) (μ : Mem) (hI : I μ) (k : ∀ μ2, I μ2 → jJ Γ 4 1472 [(3, .int (nI j)), (2, .ref 113), (1, .ref 0), (0, .ref 3000)] [] μ2) : jJ Γ 4 957 [(3, .int (nI j)), (2, .ref 113), (1, .ref 0), (0, .ref 3000)] [] μ := by
  obtain ⟨r, μ1, μ2, h1, h2, h3⟩ := ok (xs (j + 1)) (xs (j + 2)) (xs (j + 3)) μ hI
  refine j_aload_n C dL_law_957 rfl 2 rfl ?_
  refine j_aload_n C dL_law_958 rfl 3 rfl ?_
  refine j_iload_n C dL_law_959 rfl 0 rfl ?_
  refine j_iconst (v := 1) C dL_law_960 rfl (by decide) ?_
  refine j_iaddv (v := nI (j + 1)) C dL_law_961 rfl (nI_add j 1) ?_
  refine j_sld (j := j + 1) C S dL_law_962 rfl (by omega) hL ?_
  refine j_aload_n C dL_law_963 rfl 3 rfl ?_
  refine j_iload_n C dL_law_964 rfl 0 rfl ?_
  refine j_iconst (v := 2) C dL_law_965 rfl (by decide) ?_
  refine j_iaddv (v := nI (j + 2)) C dL_law_966 rfl (nI_add j 2) ?_
  refine j_sld (j := j + 2) C S dL_law_967 rfl (by omega) hL ?_
  refine j_aload_n C dL_law_968 rfl 3 rfl ?_
  refine j_iload_n C dL_law_969 rfl 0 rfl ?_
  refine j_iconst (v := 3) C dL_law_970 rfl (by decide) ?_
  refine j_iaddv (v := nI (j + 3)) C dL_law_971 rfl (nI_add j 3) ?_
  refine j_sld (j := j + 3) C S dL_law_972 rfl (by omega) hL ?_
  refine j_cVI (av := [.int (xs (j + 1)), .int (xs (j + 2)), .int (xs (j + 3))]) (rest := []) C dL_law_973 rfl (c_X7_log _ _ _ _ μ (r, μ1) h1) gvL_126 ⟨⟨rfl, rfl⟩, Nat.le_of_ble_eq_true rfl, Nat.le_of_ble_eq_true rfl⟩ rfl is_0 rfl rfl (Nat.le_of_ble_eq_true rfl) ?_
  refine j_aload_n C dL_law_976 rfl 1 rfl ?_
  refine j_aload_n C dL_law_977 rfl 3 rfl ?_
  refine j_iload_n C dL_law_978 rfl 0 rfl ?_
  refine j_iconst (v := 1) C dL_law_979 rfl (by decide) ?_
  refine j_iaddv (v := nI (j + 1)) C dL_law_980 rfl (nI_add j 1) ?_
  refine j_sld (j := j + 1) C S dL_law_981 rfl (by omega) hL ?_
  refine j_aload_n C dL_law_982 rfl 3 rfl ?_
  refine j_iload_n C dL_law_983 rfl 0 rfl ?_
  refine j_iconst (v := 2) C dL_law_984 rfl (by decide) ?_
  refine j_iaddv (v := nI (j + 2)) C dL_law_985 rfl (nI_add j 2) ?_
  refine j_sld (j := j + 2) C S dL_law_986 rfl (by omega) hL ?_
  refine j_aload_n C dL_law_987 rfl 3 rfl ?_
  refine j_iload_n C dL_law_988 rfl 0 rfl ?_
  refine j_iconst (v := 3) C dL_law_989 rfl (by decide) ?_
  refine j_iaddv (v := nI (j + 3)) C dL_law_990 rfl (nI_add j 3) ?_
  refine j_sld (j := j + 3) C S dL_law_991 rfl (by omega) hL ?_
  refine j_cVI (av := [.int (xs (j + 1)), .int (xs (j + 2)), .int (xs (j + 3))]) (rest := [.int r]) C dL_law_992 rfl (c_X8_log _ _ _ _ μ1 (r, μ2) h2) gvL_129 ⟨⟨rfl, rfl⟩, Nat.le_of_ble_eq_true rfl, Nat.le_of_ble_eq_true rfl⟩ rfl is_113 rfl rfl (Nat.le_of_ble_eq_true rfl) ?_
  refine j_icmp_eq (tgt := 1472) C dL_law_995 rfl (by decide) (fun _ => ?_) (fun q => absurd rfl q)
  exact k μ2 h3
set_option maxHeartbeats 4000000 in
set_option maxRecDepth 100000 in
theorem lc_burn {Γ : jG} {I : Mem → Prop} {L j : Nat} {xs : Nat → Int32} (C : jC Γ 4 cL_law RL room_1) (S : jX Γ L xs) (hL : L ≤ 384) (hj : j + 6 ≤ L) (ok : ok_burn I) (μ : Mem) (hI : I μ) (k : ∀ μ2, I μ2 → jJ Γ 4 1472 [(3, .int (nI j)), (2, .ref 113), (1, .ref 0), (0, .ref 3000)] [] μ2) : jJ Γ 4 1000 [(3, .int (nI j)), (2, .ref 113), (1, .ref 0), (0, .ref 3000)] [] μ := by
  obtain ⟨r, μ1, μ2, h1, h2, h3⟩ := ok μ hI
  refine j_aload_n C dL_law_1000 rfl 2 rfl ?_
  refine j_cVI (av := []) (rest := []) C dL_law_1001 rfl (c_X7_burn _ _ _ _ μ (r, μ1) h1) gvL_130 ⟨⟨rfl, rfl⟩, Nat.le_of_ble_eq_true rfl, Nat.le_of_ble_eq_true rfl⟩ rfl is_0 rfl rfl (Nat.le_of_ble_eq_true rfl) ?_
  refine j_aload_n C dL_law_1004 rfl 1 rfl ?_
  refine j_cVI (av := []) (rest := [.int r]) C dL_law_1005 rfl (c_X8_burn _ _ _ _ μ1 (r, μ2) h2) gvL_133 ⟨⟨rfl, rfl⟩, Nat.le_of_ble_eq_true rfl, Nat.le_of_ble_eq_true rfl⟩ rfl is_113 rfl rfl (Nat.le_of_ble_eq_true rfl) ?_
  refine j_icmp_eq (tgt := 1472) C dL_law_1008 rfl (by decide) (fun _ => ?_) (fun q => absurd rfl q)
  exact k μ2 h3
set_option maxHeartbeats 4000000 in
set_option maxRecDepth 100000 in
theorem lc_sure {Γ : jG} {I : Mem → Prop} {L j : Nat} {xs : Nat → Int32} (C : jC Γ 4 cL_law RL room_1) (S : jX Γ L xs) (hL : L ≤ 384) (hj : j + 6 ≤ L) (ok : ok_sure I) (μ : Mem) (hI : I μ) (k : ∀ μ2, I μ2 → jJ Γ 4 1472 [(3, .int (nI j)), (2, .ref 113), (1, .ref 0), (0, .ref 3000)] [] μ2) : jJ Γ 4 1013 [(3, .int (nI j)), (2, .ref 113), (1, .ref 0), (0, .ref 3000)] [] μ := by
  obtain ⟨r, μ1, μ2, h1, h2, h3⟩ := ok μ hI
  refine j_aload_n C dL_law_1013 rfl 2 rfl ?_
  refine j_cVI (av := []) (rest := []) C dL_law_1014 rfl (c_X7_sure _ _ _ _ μ (r, μ1) h1) gvL_134 ⟨⟨rfl, rfl⟩, Nat.le_of_ble_eq_true rfl, Nat.le_of_ble_eq_true rfl⟩ rfl is_0 rfl rfl (Nat.le_of_ble_eq_true rfl) ?_
  refine j_aload_n C dL_law_1017 rfl 1 rfl ?_
  refine j_cVI (av := []) (rest := [.int r]) C dL_law_1018 rfl (c_X8_sure _ _ _ _ μ1 (r, μ2) h2) gvL_137 ⟨⟨rfl, rfl⟩, Nat.le_of_ble_eq_true rfl, Nat.le_of_ble_eq_true rfl⟩ rfl is_113 rfl rfl (Nat.le_of_ble_eq_true rfl) ?_
  refine j_icmp_eq (tgt := 1472) C dL_law_1021 rfl (by decide) (fun _ => ?_) (fun q => absurd rfl q)
  exact k μ2 h3
set_option maxHeartbeats 4000000 in
set_option maxRecDepth 100000 in
theorem lc_fits {Γ : jG} {I : Mem → Prop} {L j : Nat} {xs : Nat → Int32} (C : jC Γ 4 cL_law RL room_1) (S : jX Γ L xs) (hL : L ≤ 384) (hj : j + 6 ≤ L) (ok : ok_fits I) (μ : Mem) (hI : I μ) (k : ∀ μ2, I μ2 → jJ Γ 4 1472 [(3, .int (nI j)), (2, .ref 113), (1, .ref 0), (0, .ref 3000)] [] μ2) : jJ Γ 4 1026 [(3, .int (nI j)), (2, .ref 113), (1, .ref 0), (0, .ref 3000)] [] μ := by
  obtain ⟨r, μ1, μ2, h1, h2, h3⟩ := ok (xs (j + 1)) μ hI
  refine j_aload_n C dL_law_1026 rfl 2 rfl ?_
  refine j_aload_n C dL_law_1027 rfl 3 rfl ?_
  refine j_iload_n C dL_law_1028 rfl 0 rfl ?_
  refine j_iconst (v := 1) C dL_law_1029 rfl (by decide) ?_
  refine j_iaddv (v := nI (j + 1)) C dL_law_1030 rfl (nI_add j 1) ?_
  refine j_sld (j := j + 1) C S dL_law_1031 rfl (by omega) hL ?_
  refine j_cVI (av := [.int (xs (j + 1))]) (rest := []) C dL_law_1032 rfl (c_X7_fits _ _ _ _ μ (r, μ1) h1) gvL_138 ⟨⟨rfl, rfl⟩, Nat.le_of_ble_eq_true rfl, Nat.le_of_ble_eq_true rfl⟩ rfl is_0 rfl rfl (Nat.le_of_ble_eq_true rfl) ?_
  refine j_aload_n C dL_law_1035 rfl 1 rfl ?_
  refine j_aload_n C dL_law_1036 rfl 3 rfl ?_
  refine j_iload_n C dL_law_1037 rfl 0 rfl ?_
  refine j_iconst (v := 1) C dL_law_1038 rfl (by decide) ?_
  refine j_iaddv (v := nI (j + 1)) C dL_law_1039 rfl (nI_add j 1) ?_
  refine j_sld (j := j + 1) C S dL_law_1040 rfl (by omega) hL ?_
  refine j_cVI (av := [.int (xs (j + 1))]) (rest := [.int r]) C dL_law_1041 rfl (c_X8_fits _ _ _ _ μ1 (r, μ2) h2) gvL_141 ⟨⟨rfl, rfl⟩, Nat.le_of_ble_eq_true rfl, Nat.le_of_ble_eq_true rfl⟩ rfl is_113 rfl rfl (Nat.le_of_ble_eq_true rfl) ?_
  refine j_icmp_eq (tgt := 1472) C dL_law_1044 rfl (by decide) (fun _ => ?_) (fun q => absurd rfl q)
  exact k μ2 h3
set_option maxHeartbeats 4000000 in
set_option maxRecDepth 100000 in
theorem lc_ask {Γ : jG} {I : Mem → Prop} {L j : Nat} {xs : Nat → Int32} (C : jC Γ 4 cL_law RL room_1) (S : jX Γ L xs) (hL : L ≤ 384) (hj : j + 6 ≤ L) (ok : ok_ask I) (μ : Mem) (hI : I μ) (k : ∀ μ2, I μ2 → jJ Γ 4 1472 [(3, .int (nI j)), (2, .ref 113), (1, .ref 0), (0, .ref 3000)] [] μ2) : jJ Γ 4 1049 [(3, .int (nI j)), (2, .ref 113), (1, .ref 0), (0, .ref 3000)] [] μ := by
  obtain ⟨r, μ1, μ2, h1, h2, h3⟩ := ok μ hI
  refine j_aload_n C dL_law_1049 rfl 2 rfl ?_
  refine j_cVI (av := []) (rest := []) C dL_law_1050 rfl (c_X7_ask _ _ _ _ μ (r, μ1) h1) gvL_142 ⟨⟨rfl, rfl⟩, Nat.le_of_ble_eq_true rfl, Nat.le_of_ble_eq_true rfl⟩ rfl is_0 rfl rfl (Nat.le_of_ble_eq_true rfl) ?_
  refine j_aload_n C dL_law_1053 rfl 1 rfl ?_
  refine j_cVI (av := []) (rest := [.int r]) C dL_law_1054 rfl (c_X8_ask _ _ _ _ μ1 (r, μ2) h2) gvL_145 ⟨⟨rfl, rfl⟩, Nat.le_of_ble_eq_true rfl, Nat.le_of_ble_eq_true rfl⟩ rfl is_113 rfl rfl (Nat.le_of_ble_eq_true rfl) ?_
  refine j_icmp_eq (tgt := 1472) C dL_law_1057 rfl (by decide) (fun _ => ?_) (fun q => absurd rfl q)
  exact k μ2 h3
set_option maxHeartbeats 4000000 in
set_option maxRecDepth 100000 in
theorem lc_ship {Γ : jG} {I : Mem → Prop} {L j : Nat} {xs : Nat → Int32} (C : jC Γ 4 cL_law RL room_1) (S : jX Γ L xs) (hL : L ≤ 384) (hj : j + 6 ≤ L) (ok : ok_ship I) (μ : Mem) (hI : I μ) (k : ∀ μ2, I μ2 → jJ Γ 4 1472 [(3, .int (nI j)), (2, .ref 113), (1, .ref 0), (0, .ref 3000)] [] μ2) : jJ Γ 4 1062 [(3, .int (nI j)), (2, .ref 113), (1, .ref 0), (0, .ref 3000)] [] μ := by
  obtain ⟨r, μ1, μ2, h1, h2, h3⟩ := ok (xs (j + 1)) (xs (j + 2)) μ hI
  refine j_aload_n C dL_law_1062 rfl 2 rfl ?_
  refine j_aload_n C dL_law_1063 rfl 3 rfl ?_
  refine j_iload_n C dL_law_1064 rfl 0 rfl ?_
  refine j_iconst (v := 1) C dL_law_1065 rfl (by decide) ?_
  refine j_iaddv (v := nI (j + 1)) C dL_law_1066 rfl (nI_add j 1) ?_
  refine j_sld (j := j + 1) C S dL_law_1067 rfl (by omega) hL ?_
  refine j_aload_n C dL_law_1068 rfl 3 rfl ?_
  refine j_iload_n C dL_law_1069 rfl 0 rfl ?_
  refine j_iconst (v := 2) C dL_law_1070 rfl (by decide) ?_
  refine j_iaddv (v := nI (j + 2)) C dL_law_1071 rfl (nI_add j 2) ?_
  refine j_sld (j := j + 2) C S dL_law_1072 rfl (by omega) hL ?_
  refine j_cVI (av := [.int (xs (j + 1)), .int (xs (j + 2))]) (rest := []) C dL_law_1073 rfl (c_X7_ship _ _ _ _ μ (r, μ1) h1) gvL_146 ⟨⟨rfl, rfl⟩, Nat.le_of_ble_eq_true rfl, Nat.le_of_ble_eq_true rfl⟩ rfl is_0 rfl rfl (Nat.le_of_ble_eq_true rfl) ?_
  refine j_aload_n C dL_law_1076 rfl 1 rfl ?_
  refine j_aload_n C dL_law_1077 rfl 3 rfl ?_
  refine j_iload_n C dL_law_1078 rfl 0 rfl ?_
  refine j_iconst (v := 1) C dL_law_1079 rfl (by decide) ?_
  refine j_iaddv (v := nI (j + 1)) C dL_law_1080 rfl (nI_add j 1) ?_
  refine j_sld (j := j + 1) C S dL_law_1081 rfl (by omega) hL ?_
  refine j_aload_n C dL_law_1082 rfl 3 rfl ?_
  refine j_iload_n C dL_law_1083 rfl 0 rfl ?_
  refine j_iconst (v := 2) C dL_law_1084 rfl (by decide) ?_
  refine j_iaddv (v := nI (j + 2)) C dL_law_1085 rfl (nI_add j 2) ?_
  refine j_sld (j := j + 2) C S dL_law_1086 rfl (by omega) hL ?_
  refine j_cVI (av := [.int (xs (j + 1)), .int (xs (j + 2))]) (rest := [.int r]) C dL_law_1087 rfl (c_X8_ship _ _ _ _ μ1 (r, μ2) h2) gvL_149 ⟨⟨rfl, rfl⟩, Nat.le_of_ble_eq_true rfl, Nat.le_of_ble_eq_true rfl⟩ rfl is_113 rfl rfl (Nat.le_of_ble_eq_true rfl) ?_
  refine j_icmp_eq (tgt := 1472) C dL_law_1090 rfl (by decide) (fun _ => ?_) (fun q => absurd rfl q)
  exact k μ2 h3
set_option maxHeartbeats 4000000 in
set_option maxRecDepth 100000 in
theorem lc_image {Γ : jG} {I : Mem → Prop} {L j : Nat} {xs : Nat → Int32} (C : jC Γ 4 cL_law RL room_1) (S : jX Γ L xs) (hL : L ≤ 384) (hj : j + 6 ≤ L) (ok : ok_image I) (μ : Mem) (hI : I μ) (k : ∀ μ2, I μ2 → jJ Γ 4 1472 [(3, .int (nI j)), (2, .ref 113), (1, .ref 0), (0, .ref 3000)] [] μ2) : jJ Γ 4 1095 [(3, .int (nI j)), (2, .ref 113), (1, .ref 0), (0, .ref 3000)] [] μ := by
  obtain ⟨r, μ1, μ2, h1, h2, h3⟩ := ok μ hI
  refine j_aload_n C dL_law_1095 rfl 2 rfl ?_
  refine j_cVI (av := []) (rest := []) C dL_law_1096 rfl (c_X7_image _ _ _ _ μ (r, μ1) h1) gvL_150 ⟨⟨rfl, rfl⟩, Nat.le_of_ble_eq_true rfl, Nat.le_of_ble_eq_true rfl⟩ rfl is_0 rfl rfl (Nat.le_of_ble_eq_true rfl) ?_
  refine j_aload_n C dL_law_1099 rfl 1 rfl ?_
  refine j_cVI (av := []) (rest := [.int r]) C dL_law_1100 rfl (c_X8_image _ _ _ _ μ1 (r, μ2) h2) gvL_153 ⟨⟨rfl, rfl⟩, Nat.le_of_ble_eq_true rfl, Nat.le_of_ble_eq_true rfl⟩ rfl is_113 rfl rfl (Nat.le_of_ble_eq_true rfl) ?_
  refine j_icmp_eq (tgt := 1472) C dL_law_1103 rfl (by decide) (fun _ => ?_) (fun q => absurd rfl q)
  exact k μ2 h3
set_option maxHeartbeats 4000000 in
set_option maxRecDepth 100000 in
theorem lc_restore {Γ : jG} {I : Mem → Prop} {L j : Nat} {xs : Nat → Int32} (C : jC Γ 4 cL_law RL room_1) (S : jX Γ L xs) (hL : L ≤ 384) (hj : j + 6 ≤ L) (ok : ok_restore I) (μ : Mem) (hI : I μ) (k : ∀ μ2, I μ2 → jJ Γ 4 1472 [(3, .int (nI j)), (2, .ref 113), (1, .ref 0), (0, .ref 3000)] [] μ2) : jJ Γ 4 1108 [(3, .int (nI j)), (2, .ref 113), (1, .ref 0), (0, .ref 3000)] [] μ := by
  obtain ⟨r, μ1, μ2, h1, h2, h3⟩ := ok μ hI
  refine j_aload_n C dL_law_1108 rfl 2 rfl ?_
  refine j_cVI (av := []) (rest := []) C dL_law_1109 rfl (c_X7_restore _ _ _ _ μ (r, μ1) h1) gvL_154 ⟨⟨rfl, rfl⟩, Nat.le_of_ble_eq_true rfl, Nat.le_of_ble_eq_true rfl⟩ rfl is_0 rfl rfl (Nat.le_of_ble_eq_true rfl) ?_
  refine j_aload_n C dL_law_1112 rfl 1 rfl ?_
  refine j_cVI (av := []) (rest := [.int r]) C dL_law_1113 rfl (c_X8_restore _ _ _ _ μ1 (r, μ2) h2) gvL_157 ⟨⟨rfl, rfl⟩, Nat.le_of_ble_eq_true rfl, Nat.le_of_ble_eq_true rfl⟩ rfl is_113 rfl rfl (Nat.le_of_ble_eq_true rfl) ?_
  refine j_icmp_eq (tgt := 1472) C dL_law_1116 rfl (by decide) (fun _ => ?_) (fun q => absurd rfl q)
  exact k μ2 h3
set_option maxHeartbeats 4000000 in
set_option maxRecDepth 100000 in
theorem lc_delays {Γ : jG} {I : Mem → Prop} {L j : Nat} {xs : Nat → Int32} (C : jC Γ 4 cL_law RL room_1) (S : jX Γ L xs) (hL : L ≤ 384) (hj : j + 6 ≤ L) (ok : ok_delays I) (μ : Mem) (hI : I μ) (k : ∀ μ2, I μ2 → jJ Γ 4 1472 [(3, .int (nI j)), (2, .ref 113), (1, .ref 0), (0, .ref 3000)] [] μ2) : jJ Γ 4 1121 [(3, .int (nI j)), (2, .ref 113), (1, .ref 0), (0, .ref 3000)] [] μ := by
  obtain ⟨r, μ1, μ2, h1, h2, h3⟩ := ok (xs (j + 1)) (xs (j + 2)) (xs (j + 3)) (xs (j + 4)) μ hI
  refine j_aload_n C dL_law_1121 rfl 2 rfl ?_
  refine j_aload_n C dL_law_1122 rfl 3 rfl ?_
  refine j_iload_n C dL_law_1123 rfl 0 rfl ?_
  refine j_iconst (v := 1) C dL_law_1124 rfl (by decide) ?_
  refine j_iaddv (v := nI (j + 1)) C dL_law_1125 rfl (nI_add j 1) ?_
  refine j_sld (j := j + 1) C S dL_law_1126 rfl (by omega) hL ?_
  refine j_aload_n C dL_law_1127 rfl 3 rfl ?_
  refine j_iload_n C dL_law_1128 rfl 0 rfl ?_
  refine j_iconst (v := 2) C dL_law_1129 rfl (by decide) ?_
  refine j_iaddv (v := nI (j + 2)) C dL_law_1130 rfl (nI_add j 2) ?_
  refine j_sld (j := j + 2) C S dL_law_1131 rfl (by omega) hL ?_
  refine j_aload_n C dL_law_1132 rfl 3 rfl ?_
  refine j_iload_n C dL_law_1133 rfl 0 rfl ?_
  refine j_iconst (v := 3) C dL_law_1134 rfl (by decide) ?_
  refine j_iaddv (v := nI (j + 3)) C dL_law_1135 rfl (nI_add j 3) ?_
  refine j_sld (j := j + 3) C S dL_law_1136 rfl (by omega) hL ?_
  refine j_aload_n C dL_law_1137 rfl 3 rfl ?_
  refine j_iload_n C dL_law_1138 rfl 0 rfl ?_
  refine j_iconst (v := 4) C dL_law_1139 rfl (by decide) ?_
  refine j_iaddv (v := nI (j + 4)) C dL_law_1140 rfl (nI_add j 4) ?_
  refine j_sld (j := j + 4) C S dL_law_1141 rfl (by omega) hL ?_
  refine j_cVI (av := [.int (xs (j + 1)), .int (xs (j + 2)), .int (xs (j + 3)), .int (xs (j + 4))]) (rest := []) C dL_law_1142 rfl (c_X7_delays _ _ _ _ μ (r, μ1) h1) gvL_158 ⟨⟨rfl, rfl⟩, Nat.le_of_ble_eq_true rfl, Nat.le_of_ble_eq_true rfl⟩ rfl is_0 rfl rfl (Nat.le_of_ble_eq_true rfl) ?_
  refine j_aload_n C dL_law_1145 rfl 1 rfl ?_
  refine j_aload_n C dL_law_1146 rfl 3 rfl ?_
  refine j_iload_n C dL_law_1147 rfl 0 rfl ?_
  refine j_iconst (v := 1) C dL_law_1148 rfl (by decide) ?_
  refine j_iaddv (v := nI (j + 1)) C dL_law_1149 rfl (nI_add j 1) ?_
  refine j_sld (j := j + 1) C S dL_law_1150 rfl (by omega) hL ?_
  refine j_aload_n C dL_law_1151 rfl 3 rfl ?_
  refine j_iload_n C dL_law_1152 rfl 0 rfl ?_
  refine j_iconst (v := 2) C dL_law_1153 rfl (by decide) ?_
  refine j_iaddv (v := nI (j + 2)) C dL_law_1154 rfl (nI_add j 2) ?_
  refine j_sld (j := j + 2) C S dL_law_1155 rfl (by omega) hL ?_
  refine j_aload_n C dL_law_1156 rfl 3 rfl ?_
  refine j_iload_n C dL_law_1157 rfl 0 rfl ?_
  refine j_iconst (v := 3) C dL_law_1158 rfl (by decide) ?_
  refine j_iaddv (v := nI (j + 3)) C dL_law_1159 rfl (nI_add j 3) ?_
  refine j_sld (j := j + 3) C S dL_law_1160 rfl (by omega) hL ?_
  refine j_aload_n C dL_law_1161 rfl 3 rfl ?_
  refine j_iload_n C dL_law_1162 rfl 0 rfl ?_
  refine j_iconst (v := 4) C dL_law_1163 rfl (by decide) ?_
  refine j_iaddv (v := nI (j + 4)) C dL_law_1164 rfl (nI_add j 4) ?_
  refine j_sld (j := j + 4) C S dL_law_1165 rfl (by omega) hL ?_
  refine j_cVI (av := [.int (xs (j + 1)), .int (xs (j + 2)), .int (xs (j + 3)), .int (xs (j + 4))]) (rest := [.int r]) C dL_law_1166 rfl (c_X8_delays _ _ _ _ μ1 (r, μ2) h2) gvL_161 ⟨⟨rfl, rfl⟩, Nat.le_of_ble_eq_true rfl, Nat.le_of_ble_eq_true rfl⟩ rfl is_113 rfl rfl (Nat.le_of_ble_eq_true rfl) ?_
  refine j_icmp_eq (tgt := 1472) C dL_law_1169 rfl (by decide) (fun _ => ?_) (fun q => absurd rfl q)
  exact k μ2 h3
set_option maxHeartbeats 4000000 in
set_option maxRecDepth 100000 in
theorem lc_film {Γ : jG} {I : Mem → Prop} {L j : Nat} {xs : Nat → Int32} (C : jC Γ 4 cL_law RL room_1) (S : jX Γ L xs) (hL : L ≤ 384) (hj : j + 6 ≤ L) (ok : ok_film I) (μ : Mem) (hI : I μ) (k : ∀ μ2, I μ2 → jJ Γ 4 1472 [(3, .int (nI j)), (2, .ref 113), (1, .ref 0), (0, .ref 3000)] [] μ2) : jJ Γ 4 1174 [(3, .int (nI j)), (2, .ref 113), (1, .ref 0), (0, .ref 3000)] [] μ := by
  obtain ⟨r, μ1, μ2, h1, h2, h3⟩ := ok (xs (j + 1)) (xs (j + 2)) (xs (j + 3)) μ hI
  refine j_aload_n C dL_law_1174 rfl 2 rfl ?_
  refine j_aload_n C dL_law_1175 rfl 3 rfl ?_
  refine j_iload_n C dL_law_1176 rfl 0 rfl ?_
  refine j_iconst (v := 1) C dL_law_1177 rfl (by decide) ?_
  refine j_iaddv (v := nI (j + 1)) C dL_law_1178 rfl (nI_add j 1) ?_
  refine j_sld (j := j + 1) C S dL_law_1179 rfl (by omega) hL ?_
  refine j_aload_n C dL_law_1180 rfl 3 rfl ?_
  refine j_iload_n C dL_law_1181 rfl 0 rfl ?_
  refine j_iconst (v := 2) C dL_law_1182 rfl (by decide) ?_
  refine j_iaddv (v := nI (j + 2)) C dL_law_1183 rfl (nI_add j 2) ?_
  refine j_sld (j := j + 2) C S dL_law_1184 rfl (by omega) hL ?_
  refine j_aload_n C dL_law_1185 rfl 3 rfl ?_
  refine j_iload_n C dL_law_1186 rfl 0 rfl ?_
  refine j_iconst (v := 3) C dL_law_1187 rfl (by decide) ?_
  refine j_iaddv (v := nI (j + 3)) C dL_law_1188 rfl (nI_add j 3) ?_
  refine j_sld (j := j + 3) C S dL_law_1189 rfl (by omega) hL ?_
  refine j_cVI (av := [.int (xs (j + 1)), .int (xs (j + 2)), .int (xs (j + 3))]) (rest := []) C dL_law_1190 rfl (c_X7_film _ _ _ _ μ (r, μ1) h1) gvL_162 ⟨⟨rfl, rfl⟩, Nat.le_of_ble_eq_true rfl, Nat.le_of_ble_eq_true rfl⟩ rfl is_0 rfl rfl (Nat.le_of_ble_eq_true rfl) ?_
  refine j_aload_n C dL_law_1193 rfl 1 rfl ?_
  refine j_aload_n C dL_law_1194 rfl 3 rfl ?_
  refine j_iload_n C dL_law_1195 rfl 0 rfl ?_
  refine j_iconst (v := 1) C dL_law_1196 rfl (by decide) ?_
  refine j_iaddv (v := nI (j + 1)) C dL_law_1197 rfl (nI_add j 1) ?_
  refine j_sld (j := j + 1) C S dL_law_1198 rfl (by omega) hL ?_
  refine j_aload_n C dL_law_1199 rfl 3 rfl ?_
  refine j_iload_n C dL_law_1200 rfl 0 rfl ?_
  refine j_iconst (v := 2) C dL_law_1201 rfl (by decide) ?_
  refine j_iaddv (v := nI (j + 2)) C dL_law_1202 rfl (nI_add j 2) ?_
  refine j_sld (j := j + 2) C S dL_law_1203 rfl (by omega) hL ?_
  refine j_aload_n C dL_law_1204 rfl 3 rfl ?_
  refine j_iload_n C dL_law_1205 rfl 0 rfl ?_
  refine j_iconst (v := 3) C dL_law_1206 rfl (by decide) ?_
  refine j_iaddv (v := nI (j + 3)) C dL_law_1207 rfl (nI_add j 3) ?_
  refine j_sld (j := j + 3) C S dL_law_1208 rfl (by omega) hL ?_
  refine j_cVI (av := [.int (xs (j + 1)), .int (xs (j + 2)), .int (xs (j + 3))]) (rest := [.int r]) C dL_law_1209 rfl (c_X8_film _ _ _ _ μ1 (r, μ2) h2) gvL_165 ⟨⟨rfl, rfl⟩, Nat.le_of_ble_eq_true rfl, Nat.le_of_ble_eq_true rfl⟩ rfl is_113 rfl rfl (Nat.le_of_ble_eq_true rfl) ?_
  refine j_icmp_eq (tgt := 1472) C dL_law_1212 rfl (by decide) (fun _ => ?_) (fun q => absurd rfl q)
  exact k μ2 h3
set_option maxHeartbeats 4000000 in
set_option maxRecDepth 100000 in
theorem lc_seen {Γ : jG} {I : Mem → Prop} {L j : Nat} {xs : Nat → Int32} (C : jC Γ 4 cL_law RL room_1) (S : jX Γ L xs) (hL : L ≤ 384) (hj : j + 6 ≤ L) (ok : ok_seen I) (μ : Mem) (hI : I μ) (k : ∀ μ2, I μ2 → jJ Γ 4 1472 [(3, .int (nI j)), (2, .ref 113), (1, .ref 0), (0, .ref 3000)] [] μ2) : jJ Γ 4 1217 [(3, .int (nI j)), (2, .ref 113), (1, .ref 0), (0, .ref 3000)] [] μ := by
  obtain ⟨r, μ1, μ2, h1, h2, h3⟩ := ok (xs (j + 1)) (xs (j + 2)) (xs (j + 3)) μ hI
  refine j_aload_n C dL_law_1217 rfl 2 rfl ?_
  refine j_aload_n C dL_law_1218 rfl 3 rfl ?_
  refine j_iload_n C dL_law_1219 rfl 0 rfl ?_
  refine j_iconst (v := 1) C dL_law_1220 rfl (by decide) ?_
  refine j_iaddv (v := nI (j + 1)) C dL_law_1221 rfl (nI_add j 1) ?_
  refine j_sld (j := j + 1) C S dL_law_1222 rfl (by omega) hL ?_
  refine j_aload_n C dL_law_1223 rfl 3 rfl ?_
  refine j_iload_n C dL_law_1224 rfl 0 rfl ?_
  refine j_iconst (v := 2) C dL_law_1225 rfl (by decide) ?_
  refine j_iaddv (v := nI (j + 2)) C dL_law_1226 rfl (nI_add j 2) ?_
  refine j_sld (j := j + 2) C S dL_law_1227 rfl (by omega) hL ?_
  refine j_aload_n C dL_law_1228 rfl 3 rfl ?_
  refine j_iload_n C dL_law_1229 rfl 0 rfl ?_
  refine j_iconst (v := 3) C dL_law_1230 rfl (by decide) ?_
  refine j_iaddv (v := nI (j + 3)) C dL_law_1231 rfl (nI_add j 3) ?_
  refine j_sld (j := j + 3) C S dL_law_1232 rfl (by omega) hL ?_
  refine j_cVI (av := [.int (xs (j + 1)), .int (xs (j + 2)), .int (xs (j + 3))]) (rest := []) C dL_law_1233 rfl (c_X7_seen _ _ _ _ μ (r, μ1) h1) gvL_166 ⟨⟨rfl, rfl⟩, Nat.le_of_ble_eq_true rfl, Nat.le_of_ble_eq_true rfl⟩ rfl is_0 rfl rfl (Nat.le_of_ble_eq_true rfl) ?_
  refine j_aload_n C dL_law_1236 rfl 1 rfl ?_
  refine j_aload_n C dL_law_1237 rfl 3 rfl ?_
  refine j_iload_n C dL_law_1238 rfl 0 rfl ?_
  refine j_iconst (v := 1) C dL_law_1239 rfl (by decide) ?_
  refine j_iaddv (v := nI (j + 1)) C dL_law_1240 rfl (nI_add j 1) ?_
  refine j_sld (j := j + 1) C S dL_law_1241 rfl (by omega) hL ?_
  refine j_aload_n C dL_law_1242 rfl 3 rfl ?_
  refine j_iload_n C dL_law_1243 rfl 0 rfl ?_
  refine j_iconst (v := 2) C dL_law_1244 rfl (by decide) ?_
  refine j_iaddv (v := nI (j + 2)) C dL_law_1245 rfl (nI_add j 2) ?_
  refine j_sld (j := j + 2) C S dL_law_1246 rfl (by omega) hL ?_
  refine j_aload_n C dL_law_1247 rfl 3 rfl ?_
  refine j_iload_n C dL_law_1248 rfl 0 rfl ?_
  refine j_iconst (v := 3) C dL_law_1249 rfl (by decide) ?_
  refine j_iaddv (v := nI (j + 3)) C dL_law_1250 rfl (nI_add j 3) ?_
  refine j_sld (j := j + 3) C S dL_law_1251 rfl (by omega) hL ?_
  refine j_cVI (av := [.int (xs (j + 1)), .int (xs (j + 2)), .int (xs (j + 3))]) (rest := [.int r]) C dL_law_1252 rfl (c_X8_seen _ _ _ _ μ1 (r, μ2) h2) gvL_169 ⟨⟨rfl, rfl⟩, Nat.le_of_ble_eq_true rfl, Nat.le_of_ble_eq_true rfl⟩ rfl is_113 rfl rfl (Nat.le_of_ble_eq_true rfl) ?_
  refine j_icmp_eq (tgt := 1472) C dL_law_1255 rfl (by decide) (fun _ => ?_) (fun q => absurd rfl q)
  exact k μ2 h3
set_option maxHeartbeats 4000000 in
set_option maxRecDepth 100000 in
theorem lc_sheet {Γ : jG} {I : Mem → Prop} {L j : Nat} {xs : Nat → Int32} (C : jC Γ 4 cL_law RL room_1) (S : jX Γ L xs) (hL : L ≤ 384) (hj : j + 6 ≤ L) (ok : ok_sheet I) (μ : Mem) (hI : I μ) (k : ∀ μ2, I μ2 → jJ Γ 4 1472 [(3, .int (nI j)), (2, .ref 113), (1, .ref 0), (0, .ref 3000)] [] μ2) : jJ Γ 4 1260 [(3, .int (nI j)), (2, .ref 113), (1, .ref 0), (0, .ref 3000)] [] μ := by
  obtain ⟨r, μ1, μ2, h1, h2, h3⟩ := ok (xs (j + 1)) (xs (j + 2)) (xs (j + 3)) μ hI
  refine j_aload_n C dL_law_1260 rfl 2 rfl ?_
  refine j_aload_n C dL_law_1261 rfl 3 rfl ?_
  refine j_iload_n C dL_law_1262 rfl 0 rfl ?_
  refine j_iconst (v := 1) C dL_law_1263 rfl (by decide) ?_
  refine j_iaddv (v := nI (j + 1)) C dL_law_1264 rfl (nI_add j 1) ?_
  refine j_sld (j := j + 1) C S dL_law_1265 rfl (by omega) hL ?_
  refine j_aload_n C dL_law_1266 rfl 3 rfl ?_
  refine j_iload_n C dL_law_1267 rfl 0 rfl ?_
  refine j_iconst (v := 2) C dL_law_1268 rfl (by decide) ?_
  refine j_iaddv (v := nI (j + 2)) C dL_law_1269 rfl (nI_add j 2) ?_
  refine j_sld (j := j + 2) C S dL_law_1270 rfl (by omega) hL ?_
  refine j_aload_n C dL_law_1271 rfl 3 rfl ?_
  refine j_iload_n C dL_law_1272 rfl 0 rfl ?_
  refine j_iconst (v := 3) C dL_law_1273 rfl (by decide) ?_
  refine j_iaddv (v := nI (j + 3)) C dL_law_1274 rfl (nI_add j 3) ?_
  refine j_sld (j := j + 3) C S dL_law_1275 rfl (by omega) hL ?_
  refine j_cVI (av := [.int (xs (j + 1)), .int (xs (j + 2)), .int (xs (j + 3))]) (rest := []) C dL_law_1276 rfl (c_X7_sheet _ _ _ _ μ (r, μ1) h1) gvL_170 ⟨⟨rfl, rfl⟩, Nat.le_of_ble_eq_true rfl, Nat.le_of_ble_eq_true rfl⟩ rfl is_0 rfl rfl (Nat.le_of_ble_eq_true rfl) ?_
  refine j_aload_n C dL_law_1279 rfl 1 rfl ?_
  refine j_aload_n C dL_law_1280 rfl 3 rfl ?_
  refine j_iload_n C dL_law_1281 rfl 0 rfl ?_
  refine j_iconst (v := 1) C dL_law_1282 rfl (by decide) ?_
  refine j_iaddv (v := nI (j + 1)) C dL_law_1283 rfl (nI_add j 1) ?_
  refine j_sld (j := j + 1) C S dL_law_1284 rfl (by omega) hL ?_
  refine j_aload_n C dL_law_1285 rfl 3 rfl ?_
  refine j_iload_n C dL_law_1286 rfl 0 rfl ?_
  refine j_iconst (v := 2) C dL_law_1287 rfl (by decide) ?_
  refine j_iaddv (v := nI (j + 2)) C dL_law_1288 rfl (nI_add j 2) ?_
  refine j_sld (j := j + 2) C S dL_law_1289 rfl (by omega) hL ?_
  refine j_aload_n C dL_law_1290 rfl 3 rfl ?_
  refine j_iload_n C dL_law_1291 rfl 0 rfl ?_
  refine j_iconst (v := 3) C dL_law_1292 rfl (by decide) ?_
  refine j_iaddv (v := nI (j + 3)) C dL_law_1293 rfl (nI_add j 3) ?_
  refine j_sld (j := j + 3) C S dL_law_1294 rfl (by omega) hL ?_
  refine j_cVI (av := [.int (xs (j + 1)), .int (xs (j + 2)), .int (xs (j + 3))]) (rest := [.int r]) C dL_law_1295 rfl (c_X8_sheet _ _ _ _ μ1 (r, μ2) h2) gvL_173 ⟨⟨rfl, rfl⟩, Nat.le_of_ble_eq_true rfl, Nat.le_of_ble_eq_true rfl⟩ rfl is_113 rfl rfl (Nat.le_of_ble_eq_true rfl) ?_
  refine j_icmp_eq (tgt := 1472) C dL_law_1298 rfl (by decide) (fun _ => ?_) (fun q => absurd rfl q)
  exact k μ2 h3
set_option maxHeartbeats 4000000 in
set_option maxRecDepth 100000 in
theorem lc_drop {Γ : jG} {I : Mem → Prop} {L j : Nat} {xs : Nat → Int32} (C : jC Γ 4 cL_law RL room_1) (S : jX Γ L xs) (hL : L ≤ 384) (hj : j + 6 ≤ L) (ok : ok_drop I) (μ : Mem) (hI : I μ) (k : ∀ μ2, I μ2 → jJ Γ 4 1472 [(3, .int (nI j)), (2, .ref 113), (1, .ref 0), (0, .ref 3000)] [] μ2) : jJ Γ 4 1303 [(3, .int (nI j)), (2, .ref 113), (1, .ref 0), (0, .ref 3000)] [] μ := by
  obtain ⟨r, μ1, μ2, h1, h2, h3⟩ := ok (xs (j + 1)) μ hI
  refine j_aload_n C dL_law_1303 rfl 2 rfl ?_
  refine j_aload_n C dL_law_1304 rfl 3 rfl ?_
  refine j_iload_n C dL_law_1305 rfl 0 rfl ?_
  refine j_iconst (v := 1) C dL_law_1306 rfl (by decide) ?_
  refine j_iaddv (v := nI (j + 1)) C dL_law_1307 rfl (nI_add j 1) ?_
  refine j_sld (j := j + 1) C S dL_law_1308 rfl (by omega) hL ?_
  refine j_cVI (av := [.int (xs (j + 1))]) (rest := []) C dL_law_1309 rfl (c_X7_drop _ _ _ _ μ (r, μ1) h1) gvL_174 ⟨⟨rfl, rfl⟩, Nat.le_of_ble_eq_true rfl, Nat.le_of_ble_eq_true rfl⟩ rfl is_0 rfl rfl (Nat.le_of_ble_eq_true rfl) ?_
  refine j_aload_n C dL_law_1312 rfl 1 rfl ?_
  refine j_aload_n C dL_law_1313 rfl 3 rfl ?_
  refine j_iload_n C dL_law_1314 rfl 0 rfl ?_
  refine j_iconst (v := 1) C dL_law_1315 rfl (by decide) ?_
  refine j_iaddv (v := nI (j + 1)) C dL_law_1316 rfl (nI_add j 1) ?_
  refine j_sld (j := j + 1) C S dL_law_1317 rfl (by omega) hL ?_
  refine j_cVI (av := [.int (xs (j + 1))]) (rest := [.int r]) C dL_law_1318 rfl (c_X8_drop _ _ _ _ μ1 (r, μ2) h2) gvL_177 ⟨⟨rfl, rfl⟩, Nat.le_of_ble_eq_true rfl, Nat.le_of_ble_eq_true rfl⟩ rfl is_113 rfl rfl (Nat.le_of_ble_eq_true rfl) ?_
  refine j_icmp_eq (tgt := 1472) C dL_law_1321 rfl (by decide) (fun _ => ?_) (fun q => absurd rfl q)
  exact k μ2 h3
set_option maxHeartbeats 4000000 in
set_option maxRecDepth 100000 in
theorem lc_item {Γ : jG} {I : Mem → Prop} {L j : Nat} {xs : Nat → Int32} (C : jC Γ 4 cL_law RL room_1) (S : jX Γ L xs) (hL : L ≤ 384) (hj : j + 6 ≤ L) (ok : ok_item I) (μ : Mem) (hI : I μ) (k : ∀ μ2, I μ2 → jJ Γ 4 1472 [(3, .int (nI j)), (2, .ref 113), (1, .ref 0), (0, .ref 3000)] [] μ2) : jJ Γ 4 1326 [(3, .int (nI j)), (2, .ref 113), (1, .ref 0), (0, .ref 3000)] [] μ := by
  obtain ⟨r, μ1, μ2, h1, h2, h3⟩ := ok (xs (j + 1)) (xs (j + 2)) (xs (j + 3)) (((Int32.toInt64 (xs (j + 4))) <<< ((Int32.toInt64 32) &&& 63)) ||| ((Int32.toInt64 (xs (j + 5))) &&& 4294967295)) μ hI
  refine j_aload_n C dL_law_1326 rfl 2 rfl ?_
  refine j_aload_n C dL_law_1327 rfl 3 rfl ?_
  refine j_iload_n C dL_law_1328 rfl 0 rfl ?_
  refine j_iconst (v := 1) C dL_law_1329 rfl (by decide) ?_
  refine j_iaddv (v := nI (j + 1)) C dL_law_1330 rfl (nI_add j 1) ?_
  refine j_sld (j := j + 1) C S dL_law_1331 rfl (by omega) hL ?_
  refine j_aload_n C dL_law_1332 rfl 3 rfl ?_
  refine j_iload_n C dL_law_1333 rfl 0 rfl ?_
  refine j_iconst (v := 2) C dL_law_1334 rfl (by decide) ?_
  refine j_iaddv (v := nI (j + 2)) C dL_law_1335 rfl (nI_add j 2) ?_
  refine j_sld (j := j + 2) C S dL_law_1336 rfl (by omega) hL ?_
  refine j_aload_n C dL_law_1337 rfl 3 rfl ?_
  refine j_iload_n C dL_law_1338 rfl 0 rfl ?_
  refine j_iconst (v := 3) C dL_law_1339 rfl (by decide) ?_
  refine j_iaddv (v := nI (j + 3)) C dL_law_1340 rfl (nI_add j 3) ?_
  refine j_sld (j := j + 3) C S dL_law_1341 rfl (by omega) hL ?_
  refine j_aload_n C dL_law_1342 rfl 3 rfl ?_
  refine j_iload_n C dL_law_1343 rfl 0 rfl ?_
  refine j_iconst (v := 4) C dL_law_1344 rfl (by decide) ?_
  refine j_iaddv (v := nI (j + 4)) C dL_law_1345 rfl (nI_add j 4) ?_
  refine j_sld (j := j + 4) C S dL_law_1346 rfl (by omega) hL ?_
  refine j_i2l C dL_law_1347 rfl ?_
  refine j_bipush (v := 32) C dL_law_1348 rfl (by decide) ?_
  refine j_lshl C dL_law_1350 rfl ?_
  refine j_aload_n C dL_law_1351 rfl 3 rfl ?_
  refine j_iload_n C dL_law_1352 rfl 0 rfl ?_
  refine j_iconst (v := 5) C dL_law_1353 rfl (by decide) ?_
  refine j_iaddv (v := nI (j + 5)) C dL_law_1354 rfl (nI_add j 5) ?_
  refine j_sld (j := j + 5) C S dL_law_1355 rfl (by omega) hL ?_
  refine j_i2l C dL_law_1356 rfl ?_
  refine j_ldc2 (v := 4294967295) C dL_law_1357 rfl gwt6_108 ?_
  refine j_land C dL_law_1360 rfl ?_
  refine j_lor C dL_law_1361 rfl ?_
  refine j_cVI (av := [.int (xs (j + 1)), .int (xs (j + 2)), .int (xs (j + 3)), .long (((Int32.toInt64 (xs (j + 4))) <<< ((Int32.toInt64 32) &&& 63)) ||| ((Int32.toInt64 (xs (j + 5))) &&& 4294967295))]) (rest := []) C dL_law_1362 rfl (c_X7_item _ _ _ _ μ (r, μ1) h1) gvL_180 ⟨⟨rfl, rfl⟩, Nat.le_of_ble_eq_true rfl, Nat.le_of_ble_eq_true rfl⟩ rfl is_0 rfl rfl (Nat.le_of_ble_eq_true rfl) ?_
  refine j_aload_n C dL_law_1365 rfl 1 rfl ?_
  refine j_aload_n C dL_law_1366 rfl 3 rfl ?_
  refine j_iload_n C dL_law_1367 rfl 0 rfl ?_
  refine j_iconst (v := 1) C dL_law_1368 rfl (by decide) ?_
  refine j_iaddv (v := nI (j + 1)) C dL_law_1369 rfl (nI_add j 1) ?_
  refine j_sld (j := j + 1) C S dL_law_1370 rfl (by omega) hL ?_
  refine j_aload_n C dL_law_1371 rfl 3 rfl ?_
  refine j_iload_n C dL_law_1372 rfl 0 rfl ?_
  refine j_iconst (v := 2) C dL_law_1373 rfl (by decide) ?_
  refine j_iaddv (v := nI (j + 2)) C dL_law_1374 rfl (nI_add j 2) ?_
  refine j_sld (j := j + 2) C S dL_law_1375 rfl (by omega) hL ?_
  refine j_aload_n C dL_law_1376 rfl 3 rfl ?_
  refine j_iload_n C dL_law_1377 rfl 0 rfl ?_
  refine j_iconst (v := 3) C dL_law_1378 rfl (by decide) ?_
  refine j_iaddv (v := nI (j + 3)) C dL_law_1379 rfl (nI_add j 3) ?_
  refine j_sld (j := j + 3) C S dL_law_1380 rfl (by omega) hL ?_
  refine j_aload_n C dL_law_1381 rfl 3 rfl ?_
  refine j_iload_n C dL_law_1382 rfl 0 rfl ?_
  refine j_iconst (v := 4) C dL_law_1383 rfl (by decide) ?_
  refine j_iaddv (v := nI (j + 4)) C dL_law_1384 rfl (nI_add j 4) ?_
  refine j_sld (j := j + 4) C S dL_law_1385 rfl (by omega) hL ?_
  refine j_i2l C dL_law_1386 rfl ?_
  refine j_bipush (v := 32) C dL_law_1387 rfl (by decide) ?_
  refine j_lshl C dL_law_1389 rfl ?_
  refine j_aload_n C dL_law_1390 rfl 3 rfl ?_
  refine j_iload_n C dL_law_1391 rfl 0 rfl ?_
  refine j_iconst (v := 5) C dL_law_1392 rfl (by decide) ?_
  refine j_iaddv (v := nI (j + 5)) C dL_law_1393 rfl (nI_add j 5) ?_
  refine j_sld (j := j + 5) C S dL_law_1394 rfl (by omega) hL ?_
  refine j_i2l C dL_law_1395 rfl ?_
  refine j_ldc2 (v := 4294967295) C dL_law_1396 rfl gwt6_108 ?_
  refine j_land C dL_law_1399 rfl ?_
  refine j_lor C dL_law_1400 rfl ?_
  refine j_cVI (av := [.int (xs (j + 1)), .int (xs (j + 2)), .int (xs (j + 3)), .long (((Int32.toInt64 (xs (j + 4))) <<< ((Int32.toInt64 32) &&& 63)) ||| ((Int32.toInt64 (xs (j + 5))) &&& 4294967295))]) (rest := [.int r]) C dL_law_1401 rfl (c_X8_item _ _ _ _ μ1 (r, μ2) h2) gvL_184 ⟨⟨rfl, rfl⟩, Nat.le_of_ble_eq_true rfl, Nat.le_of_ble_eq_true rfl⟩ rfl is_113 rfl rfl (Nat.le_of_ble_eq_true rfl) ?_
  refine j_icmp_eq (tgt := 1472) C dL_law_1404 rfl (by decide) (fun _ => ?_) (fun q => absurd rfl q)
  exact k μ2 h3
set_option maxHeartbeats 4000000 in
set_option maxRecDepth 100000 in
theorem lc_copy {Γ : jG} {I : Mem → Prop} {L j : Nat} {xs : Nat → Int32} (C : jC Γ 4 cL_law RL room_1) (S : jX Γ L xs) (hL : L ≤ 384) (hj : j + 6 ≤ L) (ok : ok_copy I) (μ : Mem) (hI : I μ) (k : ∀ μ2, I μ2 → jJ Γ 4 1472 [(3, .int (nI j)), (2, .ref 113), (1, .ref 0), (0, .ref 3000)] [] μ2) : jJ Γ 4 1409 [(3, .int (nI j)), (2, .ref 113), (1, .ref 0), (0, .ref 3000)] [] μ := by
  obtain ⟨r, μ1, μ2, h1, h2, h3⟩ := ok (xs (j + 1)) (xs (j + 2)) (xs (j + 3)) (xs (j + 4)) (xs (j + 5)) μ hI
  refine j_aload_n C dL_law_1409 rfl 2 rfl ?_
  refine j_aload_n C dL_law_1410 rfl 3 rfl ?_
  refine j_iload_n C dL_law_1411 rfl 0 rfl ?_
  refine j_iconst (v := 1) C dL_law_1412 rfl (by decide) ?_
  refine j_iaddv (v := nI (j + 1)) C dL_law_1413 rfl (nI_add j 1) ?_
  refine j_sld (j := j + 1) C S dL_law_1414 rfl (by omega) hL ?_
  refine j_aload_n C dL_law_1415 rfl 3 rfl ?_
  refine j_iload_n C dL_law_1416 rfl 0 rfl ?_
  refine j_iconst (v := 2) C dL_law_1417 rfl (by decide) ?_
  refine j_iaddv (v := nI (j + 2)) C dL_law_1418 rfl (nI_add j 2) ?_
  refine j_sld (j := j + 2) C S dL_law_1419 rfl (by omega) hL ?_
  refine j_aload_n C dL_law_1420 rfl 3 rfl ?_
  refine j_iload_n C dL_law_1421 rfl 0 rfl ?_
  refine j_iconst (v := 3) C dL_law_1422 rfl (by decide) ?_
  refine j_iaddv (v := nI (j + 3)) C dL_law_1423 rfl (nI_add j 3) ?_
  refine j_sld (j := j + 3) C S dL_law_1424 rfl (by omega) hL ?_
  refine j_aload_n C dL_law_1425 rfl 3 rfl ?_
  refine j_iload_n C dL_law_1426 rfl 0 rfl ?_
  refine j_iconst (v := 4) C dL_law_1427 rfl (by decide) ?_
  refine j_iaddv (v := nI (j + 4)) C dL_law_1428 rfl (nI_add j 4) ?_
  refine j_sld (j := j + 4) C S dL_law_1429 rfl (by omega) hL ?_
  refine j_aload_n C dL_law_1430 rfl 3 rfl ?_
  refine j_iload_n C dL_law_1431 rfl 0 rfl ?_
  refine j_iconst (v := 5) C dL_law_1432 rfl (by decide) ?_
  refine j_iaddv (v := nI (j + 5)) C dL_law_1433 rfl (nI_add j 5) ?_
  refine j_sld (j := j + 5) C S dL_law_1434 rfl (by omega) hL ?_
  refine j_cVI (av := [.int (xs (j + 1)), .int (xs (j + 2)), .int (xs (j + 3)), .int (xs (j + 4)), .int (xs (j + 5))]) (rest := []) C dL_law_1435 rfl (c_X7_copy _ _ _ _ μ (r, μ1) h1) gvL_185 ⟨⟨rfl, rfl⟩, Nat.le_of_ble_eq_true rfl, Nat.le_of_ble_eq_true rfl⟩ rfl is_0 rfl rfl (Nat.le_of_ble_eq_true rfl) ?_
  refine j_aload_n C dL_law_1438 rfl 1 rfl ?_
  refine j_aload_n C dL_law_1439 rfl 3 rfl ?_
  refine j_iload_n C dL_law_1440 rfl 0 rfl ?_
  refine j_iconst (v := 1) C dL_law_1441 rfl (by decide) ?_
  refine j_iaddv (v := nI (j + 1)) C dL_law_1442 rfl (nI_add j 1) ?_
  refine j_sld (j := j + 1) C S dL_law_1443 rfl (by omega) hL ?_
  refine j_aload_n C dL_law_1444 rfl 3 rfl ?_
  refine j_iload_n C dL_law_1445 rfl 0 rfl ?_
  refine j_iconst (v := 2) C dL_law_1446 rfl (by decide) ?_
  refine j_iaddv (v := nI (j + 2)) C dL_law_1447 rfl (nI_add j 2) ?_
  refine j_sld (j := j + 2) C S dL_law_1448 rfl (by omega) hL ?_
  refine j_aload_n C dL_law_1449 rfl 3 rfl ?_
  refine j_iload_n C dL_law_1450 rfl 0 rfl ?_
  refine j_iconst (v := 3) C dL_law_1451 rfl (by decide) ?_
  refine j_iaddv (v := nI (j + 3)) C dL_law_1452 rfl (nI_add j 3) ?_
  refine j_sld (j := j + 3) C S dL_law_1453 rfl (by omega) hL ?_
  refine j_aload_n C dL_law_1454 rfl 3 rfl ?_
  refine j_iload_n C dL_law_1455 rfl 0 rfl ?_
  refine j_iconst (v := 4) C dL_law_1456 rfl (by decide) ?_
  refine j_iaddv (v := nI (j + 4)) C dL_law_1457 rfl (nI_add j 4) ?_
  refine j_sld (j := j + 4) C S dL_law_1458 rfl (by omega) hL ?_
  refine j_aload_n C dL_law_1459 rfl 3 rfl ?_
  refine j_iload_n C dL_law_1460 rfl 0 rfl ?_
  refine j_iconst (v := 5) C dL_law_1461 rfl (by decide) ?_
  refine j_iaddv (v := nI (j + 5)) C dL_law_1462 rfl (nI_add j 5) ?_
  refine j_sld (j := j + 5) C S dL_law_1463 rfl (by omega) hL ?_
  refine j_cVI (av := [.int (xs (j + 1)), .int (xs (j + 2)), .int (xs (j + 3)), .int (xs (j + 4)), .int (xs (j + 5))]) (rest := [.int r]) C dL_law_1464 rfl (c_X8_copy _ _ _ _ μ1 (r, μ2) h2) gvL_189 ⟨⟨rfl, rfl⟩, Nat.le_of_ble_eq_true rfl, Nat.le_of_ble_eq_true rfl⟩ rfl is_113 rfl rfl (Nat.le_of_ble_eq_true rfl) ?_
  refine j_icmp_eq (tgt := 1472) C dL_law_1467 rfl (by decide) (fun _ => ?_) (fun q => absurd rfl q)
  exact k μ2 h3
theorem i_63 (x : Int32) : ∃ c : Nat, c < 64 ∧ x &&& 63 = nI c := pk_andE x 6 rfl
set_option maxHeartbeats 4000000 in
set_option maxRecDepth 100000 in
theorem law_loop {Γ : jG} {I : Mem → Prop} {L : Nat} {xs : Nat → Int32} (C : jC Γ 4 cL_law RL room_1) (S : jX Γ L xs) (hL : L ≤ 384) (ok : opsOK I) (hend : ∀ lv μ, jJ Γ 4 1478 lv [] μ) : ∀ (n j : Nat) (μ : Mem), L < j + 6 * n → j ≤ 400 → I μ → jJ Γ 4 18 [(3, .int (nI j)), (2, .ref 113), (1, .ref 0), (0, .ref 3000)] [] μ := by
  intro n
  induction n with
  | zero => ?_
  | succ n ih => ?_
  all_goals
    intro j μ hn hj4 hI
    refine j_iload_n C dL_law_18 rfl 0 rfl ?_
    refine j_aload_n C dL_law_19 rfl 3 rfl ?_
    refine j_slen C S dL_law_20 rfl ?_
    refine j_bipush (v := nI 6) C dL_law_21 rfl (by decide) ?_
    refine j_isub C dL_law_23 rfl ?_
    refine j_icmp_gt (tgt := 1478) C dL_law_24 rfl (by decide) (fun _ => hend _ _) (fun q => ?_)
    have hle : j + 6 ≤ L := by
      refine Nat.le_of_not_lt (fun h => q ?_)
      refine Int32.lt_iff_toInt_lt.mpr ?_
      rw [pk_sub_toInt (by omega) (by omega), nI_toInt (by omega)]
      omega
  · omega
  · refine j_aload_n C dL_law_27 rfl 3 rfl ?_
    refine j_iload_n C dL_law_28 rfl 0 rfl ?_
    refine j_sld (j := j) C S dL_law_29 rfl (by omega) hL ?_
    refine j_bipush (v := 63) C dL_law_30 rfl (by decide) ?_
    refine j_iand C dL_law_32 rfl ?_
    obtain ⟨c, hc, hce⟩ := i_63 (xs j)
    rw [hce]
    have k : ∀ μ2, I μ2 → jJ Γ 4 1472 [(3, .int (nI j)), (2, .ref 113), (1, .ref 0), (0, .ref 3000)] [] μ2 := fun μ2 h2 => by
      refine j_iinc (d := 6) (v := nI (j + 6)) (lv' := [(3, .int (nI (j + 6))), (2, .ref 113), (1, .ref 0), (0, .ref 3000)]) C dL_law_1472 rfl (by decide) 0 rfl (by decide) (nI_add j 6) rfl ?_
      refine j_goto (pc' := 18) C dL_law_1475 (by decide) ?_
      exact ih (j + 6) μ2 (by omega) (by omega) h2
    clear hce
    by_cases hc42 : 42 ≤ c
    · refine j_tabOut (tgt := 1472) C dL_law_33 (Or.inr (by rw [nI_toInt (by omega)]; omega)) (by decide) (k μ hI)
    · obtain ⟨ok0, ok1, ok2, ok3, ok4, ok5, ok6, ok7, ok8, ok9, ok10, ok11, ok12, ok13, ok14, ok15, ok16, ok17, ok18, ok19, ok20, ok21, ok22, ok23, ok24, ok25, ok26, ok27, ok28, ok29, ok30, ok31, ok32, ok33, ok34, ok35, ok36, ok37, ok38, ok39, ok40, ok41⟩ := ok
      match c, hc42 with
      | 0, _ => exact j_tabIn (tgt := 216) C dL_law_33 (by decide) (by decide) rfl (by decide) (lc_rock C S hL hle ok0 μ hI k)
      | 1, _ => exact j_tabIn (tgt := 249) C dL_law_33 (by decide) (by decide) rfl (by decide) (lc_out C S hL hle ok1 μ hI k)
      | 2, _ => exact j_tabIn (tgt := 262) C dL_law_33 (by decide) (by decide) rfl (by decide) (lc_turn C S hL hle ok2 μ hI k)
      | 3, _ => exact j_tabIn (tgt := 295) C dL_law_33 (by decide) (by decide) rfl (by decide) (lc_dark C S hL hle ok3 μ hI k)
      | 4, _ => exact j_tabIn (tgt := 338) C dL_law_33 (by decide) (by decide) rfl (by decide) (lc_delay C S hL hle ok4 μ hI k)
      | 5, _ => exact j_tabIn (tgt := 381) C dL_law_33 (by decide) (by decide) rfl (by decide) (lc_told C S hL hle ok5 μ hI k)
      | 6, _ => exact j_tabIn (tgt := 414) C dL_law_33 (by decide) (by decide) rfl (by decide) (lc_heard C S hL hle ok6 μ hI k)
      | 7, _ => exact j_tabIn (tgt := 447) C dL_law_33 (by decide) (by decide) rfl (by decide) (lc_counts C S hL hle ok7 μ hI k)
      | 8, _ => exact j_tabIn (tgt := 480) C dL_law_33 (by decide) (by decide) rfl (by decide) (lc_due C S hL hle ok8 μ hI k)
      | 9, _ => exact j_tabIn (tgt := 523) C dL_law_33 (by decide) (by decide) rfl (by decide) (lc_rule C S hL hle ok9 μ hI k)
      | 10, _ => exact j_tabIn (tgt := 556) C dL_law_33 (by decide) (by decide) rfl (by decide) (lc_add C S hL hle ok10 μ hI k)
      | 11, _ => exact j_tabIn (tgt := 609) C dL_law_33 (by decide) (by decide) rfl (by decide) (lc_type C S hL hle ok11 μ hI k)
      | 12, _ => exact j_tabIn (tgt := 632) C dL_law_33 (by decide) (by decide) rfl (by decide) (lc_laws C S hL hle ok12 μ hI k)
      | 13, _ => exact j_tabIn (tgt := 645) C dL_law_33 (by decide) (by decide) rfl (by decide) (lc_rocks C S hL hle ok13 μ hI k)
      | 14, _ => exact j_tabIn (tgt := 658) C dL_law_33 (by decide) (by decide) rfl (by decide) (lc_count C S hL hle ok14 μ hI k)
      | 15, _ => exact j_tabIn (tgt := 681) C dL_law_33 (by decide) (by decide) rfl (by decide) (lc_minute C S hL hle ok15 μ hI k)
      | 16, _ => exact j_tabIn (tgt := 694) C dL_law_33 (by decide) (by decide) rfl (by decide) (lc_night C S hL hle ok16 μ hI k)
      | 17, _ => exact j_tabIn (tgt := 717) C dL_law_33 (by decide) (by decide) rfl (by decide) (lc_lots C S hL hle ok17 μ hI k)
      | 18, _ => exact j_tabIn (tgt := 740) C dL_law_33 (by decide) (by decide) rfl (by decide) (lc_seed C S hL hle ok18 μ hI k)
      | 19, _ => exact j_tabIn (tgt := 763) C dL_law_33 (by decide) (by decide) rfl (by decide) (lc_behind C S hL hle ok19 μ hI k)
      | 20, _ => exact j_tabIn (tgt := 806) C dL_law_33 (by decide) (by decide) rfl (by decide) (lc_when C S hL hle ok20 μ hI k)
      | 21, _ => exact j_tabIn (tgt := 829) C dL_law_33 (by decide) (by decide) rfl (by decide) (lc_darkest C S hL hle ok21 μ hI k)
      | 22, _ => exact j_tabIn (tgt := 852) C dL_law_33 (by decide) (by decide) rfl (by decide) (lc_holds C S hL hle ok22 μ hI k)
      | 23, _ => exact j_tabIn (tgt := 875) C dL_law_33 (by decide) (by decide) rfl (by decide) (lc_bears C S hL hle ok23 μ hI k)
      | 24, _ => exact j_tabIn (tgt := 888) C dL_law_33 (by decide) (by decide) rfl (by decide) (lc_worst C S hL hle ok24 μ hI k)
      | 25, _ => exact j_tabIn (tgt := 911) C dL_law_33 (by decide) (by decide) rfl (by decide) (lc_least C S hL hle ok25 μ hI k)
      | 26, _ => exact j_tabIn (tgt := 944) C dL_law_33 (by decide) (by decide) rfl (by decide) (lc_spare C S hL hle ok26 μ hI k)
      | 27, _ => exact j_tabIn (tgt := 957) C dL_law_33 (by decide) (by decide) rfl (by decide) (lc_log C S hL hle ok27 μ hI k)
      | 28, _ => exact j_tabIn (tgt := 1000) C dL_law_33 (by decide) (by decide) rfl (by decide) (lc_burn C S hL hle ok28 μ hI k)
      | 29, _ => exact j_tabIn (tgt := 1013) C dL_law_33 (by decide) (by decide) rfl (by decide) (lc_sure C S hL hle ok29 μ hI k)
      | 30, _ => exact j_tabIn (tgt := 1026) C dL_law_33 (by decide) (by decide) rfl (by decide) (lc_fits C S hL hle ok30 μ hI k)
      | 31, _ => exact j_tabIn (tgt := 1049) C dL_law_33 (by decide) (by decide) rfl (by decide) (lc_ask C S hL hle ok31 μ hI k)
      | 32, _ => exact j_tabIn (tgt := 1062) C dL_law_33 (by decide) (by decide) rfl (by decide) (lc_ship C S hL hle ok32 μ hI k)
      | 33, _ => exact j_tabIn (tgt := 1095) C dL_law_33 (by decide) (by decide) rfl (by decide) (lc_image C S hL hle ok33 μ hI k)
      | 34, _ => exact j_tabIn (tgt := 1108) C dL_law_33 (by decide) (by decide) rfl (by decide) (lc_restore C S hL hle ok34 μ hI k)
      | 35, _ => exact j_tabIn (tgt := 1121) C dL_law_33 (by decide) (by decide) rfl (by decide) (lc_delays C S hL hle ok35 μ hI k)
      | 36, _ => exact j_tabIn (tgt := 1174) C dL_law_33 (by decide) (by decide) rfl (by decide) (lc_film C S hL hle ok36 μ hI k)
      | 37, _ => exact j_tabIn (tgt := 1217) C dL_law_33 (by decide) (by decide) rfl (by decide) (lc_seen C S hL hle ok37 μ hI k)
      | 38, _ => exact j_tabIn (tgt := 1260) C dL_law_33 (by decide) (by decide) rfl (by decide) (lc_sheet C S hL hle ok38 μ hI k)
      | 39, _ => exact j_tabIn (tgt := 1303) C dL_law_33 (by decide) (by decide) rfl (by decide) (lc_drop C S hL hle ok39 μ hI k)
      | 40, _ => exact j_tabIn (tgt := 1326) C dL_law_33 (by decide) (by decide) rfl (by decide) (lc_item C S hL hle ok40 μ hI k)
      | 41, _ => exact j_tabIn (tgt := 1409) C dL_law_33 (by decide) (by decide) rfl (by decide) (lc_copy C S hL hle ok41 μ hI k)
      | c + 42, h => exact absurd (by omega) h

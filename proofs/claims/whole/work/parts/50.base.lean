/-! PURE PART: memory, numbers, bits, loops -/
abbrev St : Type := Nat → Nat
def nu (σ : St) (j v : Nat) : St := fun i => if i = j then v else σ i
theorem nu_s {σ : St} {j v : Nat} : nu σ j v j = v := if_pos rfl
theorem nu_n {σ : St} {j v i : Nat} (h : i ≠ j) : nu σ j v i = σ i := if_neg h
theorem nu_nu {σ : St} {j v w : Nat} : nu (nu σ j v) j w = nu σ j w := by
  funext i
  unfold nu
  split <;> rfl
theorem nu_id {σ : St} {j v : Nat} (h : σ j = v) : nu σ j v = σ := by
  funext i
  unfold nu
  split
  · rename_i e; rw [e, h]
  · rfl
theorem rd_s {μ : Mem} {k j : Nat} {v : Int32} : (sI μ k j v).1 k j = v := by simp [sI, sA, va_up, upd]
theorem rd_k {μ : Mem} {k j k' : Nat} {v : Int32} (h : k' ≠ k) : (sI μ k j v).1 k' = μ.1 k' := by simp [sI, sA, va_up, h]
theorem rd_j {μ : Mem} {k j j' : Nat} {v : Int32} (h : j' ≠ j) : (sI μ k j v).1 k j' = μ.1 k j' := by simp [sI, sA, va_up, upd, h]
theorem rd_2 {μ : Mem} {k j : Nat} {v : Int32} : (sI μ k j v).2 = μ.2 := rfl
theorem rd_L {μ : Mem} {k j : Nat} {v : Int64} : (sL μ k j v).1 = μ.1 := rfl
theorem rd_Ls {μ : Mem} {k j : Nat} {v : Int64} : (sL μ k j v).2 k j = v := by simp [sL, sB, va_up, vp_updL]
theorem rd_Lk {μ : Mem} {k j k' : Nat} {v : Int64} (h : k' ≠ k) : (sL μ k j v).2 k' = μ.2 k' := by simp [sL, sB, va_up, h]
theorem rd_Lj {μ : Mem} {k j j' : Nat} {v : Int64} (h : j' ≠ j) : (sL μ k j v).2 k j' = μ.2 k j' := by simp [sL, sB, va_up, vp_updL, h]
theorem sI_sI {μ : Mem} {k j : Nat} {v w : Int32} : sI (sI μ k j v) k j w = sI μ k j w := by
  unfold sI sA
  refine Prod.ext ?_ rfl
  funext a b
  by_cases ha : a = k
  · subst ha
    by_cases hb : b = j <;> simp [va_up, upd, hb]
  · simp [va_up, ha]
theorem sI_id {μ : Mem} {k j : Nat} {v : Int32} (h : μ.1 k j = v) : sI μ k j v = μ := by
  unfold sI sA
  refine Prod.ext ?_ rfl
  funext a b
  by_cases ha : a = k
  · subst ha
    by_cases hb : b = j
    · subst hb; simp [va_up, upd, h]
    · simp [va_up, upd, hb]
  · simp [va_up, ha]
theorem sI_com {μ : Mem} {k j k' j' : Nat} {v w : Int32} (h : k ≠ k' ∨ j ≠ j') : sI (sI μ k j v) k' j' w = sI (sI μ k' j' w) k j v := by
  unfold sI sA
  refine Prod.ext ?_ rfl
  funext a b
  by_cases ha : a = k <;> by_cases hc : a = k' <;> by_cases hb : b = j <;> by_cases hd : b = j' <;> simp_all [va_up, upd]
/-! a row of the reference -/
def RR (μ : Mem) (k : Nat) (σ : St) : Prop := ∀ j, j < 1829 → μ.1 k j = nI (σ j)
def rM (μ : Mem) (k : Nat) (σ : St) : Mem := sA μ k (fun j => if j < 1829 then nI (σ j) else μ.1 k j)
theorem rM_r {μ : Mem} {k j : Nat} {σ : St} (h : j < 1829) : (rM μ k σ).1 k j = nI (σ j) := by simp [rM, sA, va_up, h]
theorem rM_k {μ : Mem} {k k' : Nat} {σ : St} (h : k' ≠ k) : (rM μ k σ).1 k' = μ.1 k' := by simp [rM, sA, va_up, h]
theorem rM_2 {μ : Mem} {k : Nat} {σ : St} : (rM μ k σ).2 = μ.2 := rfl
theorem rM_rr {μ : Mem} {k : Nat} {σ : St} : RR (rM μ k σ) k σ := fun _ h => rM_r h
theorem rM_o {μ : Mem} {k : Nat} {σ : St} (h : RR μ k σ) : rM μ k σ = μ := by
  unfold rM sA
  refine Prod.ext ?_ rfl
  funext a b
  by_cases ha : a = k
  · subst ha
    by_cases hb : b < 1829
    · simp [va_up, hb, h b hb]
    · simp [va_up, hb]
  · simp [va_up, ha]
theorem rM_w {μ : Mem} {k j v : Nat} {σ : St} (h : j < 1829) : sI (rM μ k σ) k j (nI v) = rM μ k (nu σ j v) := by
  unfold sI rM sA nu
  refine Prod.ext ?_ rfl
  funext a b
  by_cases ha : a = k
  · subst ha
    by_cases hb : b = j
    · subst hb; simp [va_up, upd, h]
    · by_cases hc : b < 1829 <;> simp [va_up, upd, hb, hc]
  · simp [va_up, ha]
theorem rM_c {μ : Mem} {k k' j : Nat} {v : Int32} {σ : St} (h : k' ≠ k) : sI (rM μ k σ) k' j v = rM (sI μ k' j v) k σ := by
  unfold sI rM sA
  refine Prod.ext ?_ rfl
  funext a b
  by_cases ha : a = k
  · subst ha
    simp [va_up, h, Ne.symm h]
  · by_cases hb : a = k'
    · subst hb; simp [va_up, ha]
    · simp [va_up, ha, hb]
theorem rM_rM {μ : Mem} {k : Nat} {σ τ : St} : rM (rM μ k σ) k τ = rM μ k τ := by
  unfold rM sA
  refine Prod.ext ?_ rfl
  funext a b
  by_cases ha : a = k
  · subst ha
    by_cases hb : b < 1829 <;> simp [va_up, hb]
  · simp [va_up, ha]
theorem rM_com {μ : Mem} {k k' : Nat} {σ τ : St} (h : k' ≠ k) : rM (rM μ k σ) k' τ = rM (rM μ k' τ) k σ := by
  unfold rM sA
  refine Prod.ext ?_ rfl
  funext a b
  by_cases ha : a = k
  · subst ha
    simp [va_up, h, Ne.symm h]
  · by_cases hb : a = k'
    · subst hb; simp [va_up, ha]
    · simp [va_up, ha, hb]
theorem rM_cg {μ : Mem} {k : Nat} {σ τ : St} (h : ∀ j, j < 1829 → σ j = τ j) : rM μ k σ = rM μ k τ := by
  unfold rM
  congr 1
  funext j
  by_cases hj : j < 1829
  · simp [hj, h j hj]
  · simp [hj]
/-! guards: by rows that simp takes as steps of proof, not as unfoldings (the kernel would unfold the greater side) -/
theorem zl_e {α β : Type} (v : α) (f : α → β) : zl v f = f v := by
  have h : ∀ x : β, x = f v → x = f v := fun _ q => q
  exact h _ rfl
theorem gd_y {α : Type} (x : Option α) : gd true x = x := by
  have h : ∀ y : Option α, y = x → y = x := fun _ q => q
  exact h _ rfl
theorem bd_y {α β : Type} (a : α) (f : α → Option β) : Option.bind (some a) f = f a := by
  have h : ∀ y : Option β, y = f a → y = f a := fun _ q => q
  exact h _ rfl
theorem gd_t {α : Type} {x : Option α} : gd true x = x := rfl
theorem inb_t {a n : Nat} (h : a < n) (hn : n < 2 ^ 31) : inb (nI a) n = true := by
  unfold inb
  rw [nI_clamp (by omega)]
  have := nI_pos (n := a) (by omega)
  simp [this, h]
theorem isB_n0 : isB (nI 0) = true := by decide
theorem isB_n1 : isB (nI 1) = true := by decide
theorem isB_if {c : Prop} [Decidable c] : isB (nI (if c then 1 else 0)) = true := by split <;> decide
theorem n0_eq : (nI 0 = (0 : Int32)) = True := by simp [nI_0]
theorem n1_eq : (nI 1 = (0 : Int32)) = False := by simp [nI_ne0 (show 0 < 1 by decide) (by decide)]
theorem nI_eq0 {a : Nat} (h : a < 2 ^ 31) : (nI a = (0 : Int32)) = (a = 0) := by
  have := nI_eq (a := a) (b := 0) h (by decide)
  rw [nI_0] at this
  exact propext this
theorem nI_le0 {a : Nat} (h : a < 2 ^ 31) : (nI a ≤ (0 : Int32)) = (a = 0) := by
  have := nI_leI (a := a) (b := 0) h (by decide)
  rw [nI_0] at this
  rw [propext this]
  exact propext (by omega)
theorem nI_lt0 {a : Nat} (h : a < 2 ^ 31) : (nI a < (0 : Int32)) = False := eq_false (nI_pos h)
theorem nI_ge0 {a : Nat} (h : a < 2 ^ 31) : ((0 : Int32) ≤ nI a) = True := eq_true (nI_pos' h)
theorem nI_gt0 {a : Nat} (h : a < 2 ^ 31) : ((0 : Int32) < nI a) = (0 < a) := by
  have := nI_ltI (a := 0) (b := a) (by decide) h
  rw [nI_0] at this
  exact propext this
theorem nI_eqE {a b : Nat} (ha : a < 2 ^ 31) (hb : b < 2 ^ 31) : (nI a = nI b) = (a = b) := propext (nI_eq ha hb)
theorem nI_leE {a b : Nat} (ha : a < 2 ^ 31) (hb : b < 2 ^ 31) : (nI a ≤ nI b) = (a ≤ b) := propext (nI_leI ha hb)
theorem nI_ltE {a b : Nat} (ha : a < 2 ^ 31) (hb : b < 2 ^ 31) : (nI a < nI b) = (a < b) := propext (nI_ltI ha hb)
theorem nI_neM {a : Nat} {m : Int32} (h : a < 2 ^ 31) (hm : m.toInt < 0) : (nI a = m) = False := by
  apply eq_false
  intro q
  have := nI_toInt h
  rw [q] at this
  omega
theorem if_n0 {c : Prop} [Decidable c] : (nI (if c then 1 else 0) = (0 : Int32)) = ¬ c := by
  split
  · rename_i h; simp [n1_eq, h]
  · rename_i h; simp [n0_eq, h]
theorem if_n1 {c : Prop} [Decidable c] : (nI (if c then 1 else 0) = nI 1) = c := by
  split
  · rename_i h; simp [h]
  · rename_i h; simp [h, nI_eq]
/-! a number between two others -/
theorem within_e (a lo hi : Int32) (μ : Mem) : f_X7_within a lo hi μ = some (nI (if lo.toInt ≤ a.toInt ∧ a.toInt ≤ hi.toInt then 1 else 0), μ) := by
  unfold f_X7_within
  simp only [Int32.lt_iff_toInt_lt]
  by_cases h1 : a.toInt < lo.toInt
  · rw [if_pos h1, if_neg (by omega)]
  · rw [if_neg h1]
    by_cases h2 : hi.toInt < a.toInt
    · rw [if_pos h2, if_neg (by omega)]
    · rw [if_neg h2, if_pos (by omega)]
theorem in_e (a lo hi : Int64) (μ : Mem) : f_X8_in a lo hi μ = some (nI (if lo.toInt ≤ a.toInt ∧ a.toInt ≤ hi.toInt then 1 else 0), μ) := by
  unfold f_X8_in
  simp only [lg_cmp_lt, lg_cmp_gt, Int64.lt_iff_toInt_lt]
  by_cases h1 : a.toInt < lo.toInt
  · rw [if_pos h1, if_neg (by omega)]
  · rw [if_neg h1]
    by_cases h2 : hi.toInt < a.toInt
    · rw [if_pos h2, if_neg (by omega)]
    · rw [if_neg h2, if_pos (by omega)]
theorem bet_nI {a : Int32} (l h : Nat) (h1 : (l : Int) ≤ a.toInt) (h2 : a.toInt ≤ (h : Int)) : ∃ n, l ≤ n ∧ n ≤ h ∧ n < 2 ^ 31 ∧ a = nI n := by
  have h3 := a.toInt_lt
  refine ⟨a.toInt.toNat, by omega, by omega, by omega, ?_⟩
  apply Int32.toInt_inj.mp
  rw [nI_toInt (by omega)]
  omega
/-! bits -/
def bt (x : Int32) (f : Nat) : Bool := x.toBitVec.getLsbD f
theorem bt_big {x : Int32} {f : Nat} (h : 32 ≤ f) : bt x f = false := BitVec.getLsbD_of_ge _ _ h
theorem bt_and (x y : Int32) (f : Nat) : bt (x &&& y) f = (bt x f && bt y f) := by simp [bt]
theorem bt_or (x y : Int32) (f : Nat) : bt (x ||| y) f = (bt x f || bt y f) := by simp [bt]
theorem bt_xor (x y : Int32) (f : Nat) : bt (x ^^^ y) f = (bt x f ^^ bt y f) := by simp [bt]
theorem bt_m1 {f : Nat} (h : f < 32) : bt (-1) f = true := by
  have : ∀ f, f < 32 → bt (-1) f = true := by decide
  exact this f h
theorem bt_not (x : Int32) {f : Nat} (h : f < 32) : bt (x ^^^ (-1)) f = !(bt x f) := by rw [bt_xor, bt_m1 h]; cases bt x f <;> rfl
theorem bt_0 (f : Nat) : bt (nI 0) f = false := by
  have : nI 0 = 0 := nI_0
  rw [this]
  simp [bt]
theorem bt_ext {x y : Int32} (h : ∀ f, f < 32 → bt x f = bt y f) : x = y := by
  apply Int32.toBitVec_inj.mp
  apply BitVec.eq_of_getLsbD_eq
  intro i hi
  exact h i hi
theorem sm_lt : ∀ r, r < 32 → ((nI r &&& 31).toBitVec.smod 32).toNat = r := by decide
theorem bt_1 {r : Nat} (h : r < 32) (f : Nat) : bt (nI 1 <<< (nI r &&& 31)) f = decide (f = r) := by
  by_cases hf : f < 32
  · have : ∀ r, r < 32 → ∀ f, f < 32 → bt (nI 1 <<< (nI r &&& 31)) f = decide (f = r) := by decide +kernel
    exact this r h f hf
  · rw [bt_big (by omega)]
    symm
    rw [decide_eq_false_iff_not]
    omega
theorem bt_sh (x : Int32) {r : Nat} (h : r < 32) : (x >>> (nI r &&& 31)) &&& nI 1 = nI (if bt x r = true then 1 else 0) := by
  apply bt_ext
  intro f hf
  have e1 : bt (x >>> (nI r &&& 31)) 0 = bt x r := by
    unfold bt
    rw [Int32.toBitVec_shiftRight]
    simp only [BitVec.sshiftRight_eq', sm_lt r h]
    rw [BitVec.getLsbD_sshiftRight]
    simp [h]
  rw [bt_and]
  by_cases h0 : f = 0
  · subst h0
    rw [e1]
    split
    · rename_i q; rw [q]; rfl
    · rename_i q; simp only [Bool.not_eq_true] at q; rw [q]; rfl
  · have a1 : ∀ f, f < 32 → f ≠ 0 → bt (nI 1) f = false := by decide
    rw [a1 f hf h0]
    split
    · rw [a1 f hf h0]; simp
    · rw [bt_0]; simp
/-! loops -/
theorem lp_eq {R : Type} (G : Nat → Nat → Option R) (N : Nat) (K : Option R) (hend : ∀ n, G (n + 1) N = K) (hs : ∀ n i, i < N → G (n + 1) i = G n (i + 1)) : ∀ fuel i, i ≤ N → N - i < fuel → G fuel i = K := by
  intro fuel
  induction fuel with
  | zero => intro i _ h; omega
  | succ n ih =>
    intro i hi hf
    by_cases e : i = N
    · subst e; exact hend n
    · rw [hs n i (by omega)]; exact ih (i + 1) (by omega) (by omega)
theorem lp_rel {S R : Type} (G : Nat → Nat → S → Option R) (I : Nat → S → Prop) (N : Nat) (Post : R → Prop) (hend : ∀ n s, I N s → ∃ r, G (n + 1) N s = some r ∧ Post r) (hs : ∀ n i s, i < N → I i s → (∃ s', I (i + 1) s' ∧ G (n + 1) i s = G n (i + 1) s') ∨ (∃ r, G (n + 1) i s = some r ∧ Post r)) : ∀ fuel i s, i ≤ N → N - i < fuel → I i s → ∃ r, G fuel i s = some r ∧ Post r := by
  intro fuel
  induction fuel with
  | zero => intro i _ _ h; omega
  | succ n ih =>
    intro i s hi hf h
    by_cases e : i = N
    · subst e; exact hend n s h
    · rcases hs n i s (by omega) h with ⟨s', h1, h2⟩ | h2
      · rw [h2]; exact ih (i + 1) s' (by omega) (by omega) h1
      · exact h2

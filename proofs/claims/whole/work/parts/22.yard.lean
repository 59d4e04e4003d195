/-! ===== calls with the contract first; loops; a yard of the class ===== -/
section EV2
variable {l : Launch} {d d1 : Nat} {M M1 : mM} {pc idx n : Nat} {L : List (Option mV)} {S S0 : List mV} {w : mW} {Q Q1 : Option mV → mW → Prop}
theorem Ev.cS {as : List mV} (hE : Cl l d1 M1 as w Q1) (hk : mdk M pc (.invokestatic idx) = true) (hl : mlk M.1.cls idx M1 true n = true) (hS : S = as.reverse ++ S0) (hn : as.length = n ∧ Nat.ble (mexp as).length M1.2.2.1 = true ∧ Nat.ble (mcs S0) 8 = true) (hd : d1 + 1 ≤ d) (k : ∀ r u, Q1 r u → Ev l d M (pc + 3) L (r.toList ++ S0) u Q) : Ev l d M pc L S w Q :=
  Ev.calS hk hl hS ⟨hn.1, Nat.le_of_ble_eq_true hn.2.1, Nat.le_of_ble_eq_true hn.2.2⟩ hd hE k
theorem Ev.cV {as : List mV} {t j : Nat} (hE : Cl l d1 M1 (mR t j :: as) w Q1) (hk : mdk M pc (.invokevirtual idx) = true) (hl : mlk M.1.cls idx M1 false n = true) (hS : S = as.reverse ++ mR t j :: S0) (ht : mrcv t = M1.1.cls) (hC : M1.1.cls ≠ "") (hn : as.length = n ∧ Nat.ble (mexp (mR t j :: as)).length M1.2.2.1 = true ∧ Nat.ble (mcs S0) 8 = true) (hd : d1 + 1 ≤ d) (k : ∀ r u, Q1 r u → Ev l d M (pc + 3) L (r.toList ++ S0) u Q) : Ev l d M pc L S w Q :=
  Ev.calV hk hl hS ht hC ⟨hn.1, Nat.le_of_ble_eq_true hn.2.1, Nat.le_of_ble_eq_true hn.2.2⟩ hd hE k
theorem Ev.for (I : Nat → List (Option mV) → mW → Prop) (n : Nat) (hend : ∀ L w, I n L w → Ev l d M pc L [] w Q) (hstep : ∀ i L w, i < n → I i L w → (∀ L1 w1, I (i + 1) L1 w1 → Ev l d M pc L1 [] w1 Q) → Ev l d M pc L [] w Q) (i : Nat) (hi : i ≤ n) (h0 : I i L w) : Ev l d M pc L [] w Q := by
  obtain ⟨k, rfl⟩ : ∃ k, n = i + k := ⟨n - i, by omega⟩
  induction k generalizing i L w with
  | zero => exact hend L w h0
  | succ k ih =>
    refine hstep i L w (by omega) h0 (fun L1 w1 h1 => ?_)
    refine ih (i + 1) h1 ?_ ?_ (by omega)
    · intro L w h
      exact hend L w (by rw [show i + (k + 1) = i + 1 + k by omega]; exact h)
    · intro j L w hj
      exact hstep j L w (by omega)
end EV2
theorem mgf_pf {w : mW} {t i k : Nat} {v : Int32} : mgf (mpf w t i k v) t i k = v := by simp [mgf, mpf]
theorem mgf_pfn {w : mW} {t i k t' i' k' : Nat} {v : Int32} (h : ¬ (t' = t ∧ i' = i ∧ k' = k)) : mgf (mpf w t i k v) t' i' k' = mgf w t' i' k' := by simp only [mgf, mpf, h, if_false]
theorem mga_pf {w : mW} {t i k t' i' : Nat} {v : Int32} : mga (mpf w t i k v) t' i' = mga w t' i' := rfl
theorem mgf_pA {w : mW} {t i t' i' k' : Nat} {f : Nat → Int32} : mgf (mpA w t i f) t' i' k' = mgf w t' i' k' := rfl
theorem mga_pA {w : mW} {t i : Nat} {f : Nat → Int32} : mga (mpA w t i f) t i = f := by simp [mga, mpA]
theorem mga_pAn {w : mW} {t i t' i' : Nat} {f : Nat → Int32} (h : ¬ (t' = t ∧ i' = i)) : mga (mpA w t i f) t' i' = mga w t' i' := by simp only [mga, mpA, h, if_false]
theorem ix8 {i : Nat} (h : i < 8) : (nI i).toNatClampNeg = i := nI_clamp (by omega)
theorem ixN {i : Nat} (h : i < 1000) : (nI i).toNatClampNeg = i := nI_clamp (by omega)
theorem vinN {i N : Nat} (h : i < N) (hN : N < 1000) : vp_in (nI i) N := vp_in_nI h (by omega)
theorem upd_nI {f : Nat → Int32} {g : Nat → Nat} {i v N : Nat} (h : ∀ j, j < N → f j = nI (g j)) : ∀ j, j < N → upd f i (nI v) j = nI (va_up g i v j) := by
  intro j hj
  unfold upd va_up
  by_cases e : j = i
  · rw [if_pos e, if_pos e]
  · rw [if_neg e, if_neg e]; exact h j hj
/-- the class's word for who is set aside -/
def enA (a : Nat) : Int32 := if a < 8 then nI a else -1
def YardAt (w : mW) (y : Nat) (D : Yd) : Prop :=
  ((∀ j, j < 8 → mga w 2 y j = nI (dk D j)) ∧ (∀ j, j < 8 → mga w 3 y j = nI (dc D j)) ∧ (∀ j, j < 8 → mga w 4 y j = nI (df D j)) ∧ (∀ j, j < 8 → mga w 5 y j = nI (dt D j)) ∧ (∀ j, j < 64 → mga w 6 y j = nI (dr D j))) ∧
  mgf w 1 y 5 = nI (dn D) ∧ mgf w 1 y 6 = nI (bts (ds D) 8) ∧ mgf w 1 y 7 = nI (dl D) ∧ mgf w 1 y 8 = nI (de D) ∧ mgf w 1 y 9 = nI (dg D) ∧ mgf w 1 y 10 = enA (da D)
section YA
variable {w w1 w2 : mW} {y : Nat} {D : Yd}
theorem YardAt.k (h : YardAt w y D) {j : Nat} (hj : j < 8) : mga w 2 y j = nI (dk D j) := h.1.1 j hj
theorem YardAt.c (h : YardAt w y D) {j : Nat} (hj : j < 8) : mga w 3 y j = nI (dc D j) := h.1.2.1 j hj
theorem YardAt.f (h : YardAt w y D) {j : Nat} (hj : j < 8) : mga w 4 y j = nI (df D j) := h.1.2.2.1 j hj
theorem YardAt.t (h : YardAt w y D) {j : Nat} (hj : j < 8) : mga w 5 y j = nI (dt D j) := h.1.2.2.2.1 j hj
theorem YardAt.r (h : YardAt w y D) {j : Nat} (hj : j < 64) : mga w 6 y j = nI (dr D j) := h.1.2.2.2.2 j hj
theorem YardAt.n (h : YardAt w y D) : mgf w 1 y 5 = nI (dn D) := h.2.1
theorem YardAt.s (h : YardAt w y D) : mgf w 1 y 6 = nI (bts (ds D) 8) := h.2.2.1
theorem YardAt.l (h : YardAt w y D) : mgf w 1 y 7 = nI (dl D) := h.2.2.2.1
theorem YardAt.e (h : YardAt w y D) : mgf w 1 y 8 = nI (de D) := h.2.2.2.2.1
theorem YardAt.g (h : YardAt w y D) : mgf w 1 y 9 = nI (dg D) := h.2.2.2.2.2.1
theorem YardAt.a (h : YardAt w y D) : mgf w 1 y 10 = enA (da D) := h.2.2.2.2.2.2
/-- all but the yard y is as it was -/
def Off (y : Nat) (w w1 : mW) : Prop := (∀ t i k, ¬ (t = 1 ∧ i = y) → mgf w1 t i k = mgf w t i k) ∧ ∀ t i, ¬ ((2 ≤ t ∧ t ≤ 6) ∧ i = y) → mga w1 t i = mga w t i
theorem Off.rf : Off y w w := ⟨fun _ _ _ _ => rfl, fun _ _ _ => rfl⟩
theorem Off.tr (h : Off y w w1) (h2 : Off y w1 w2) : Off y w w2 := ⟨fun t i k hn => (h2.1 t i k hn).trans (h.1 t i k hn), fun t i hn => (h2.2 t i hn).trans (h.2 t i hn)⟩
theorem Off.pf {k : Nat} {v : Int32} : Off y w (mpf w 1 y k v) := ⟨fun t i k' hn => mgf_pfn (fun ⟨a, b, _⟩ => hn ⟨a, b⟩), fun _ _ _ => rfl⟩
theorem Off.pA {t : Nat} {f : Nat → Int32} (ht : 2 ≤ t ∧ t ≤ 6) : Off y w (mpA w t y f) := ⟨fun _ _ _ _ => rfl, fun t' i hn => mga_pAn (fun ⟨a, b⟩ => hn ⟨by omega, b⟩)⟩
theorem YardAt.pN (h : YardAt w y D) {x : Nat} : YardAt (mpf w 1 y 5 (nI x)) y (un D x) := ⟨h.1, mgf_pf, by rw [mgf_pfn (by simp)]; exact h.s, by rw [mgf_pfn (by simp)]; exact h.l, by rw [mgf_pfn (by simp)]; exact h.e, by rw [mgf_pfn (by simp)]; exact h.g, by rw [mgf_pfn (by simp)]; exact h.a⟩
theorem YardAt.pS (h : YardAt w y D) {q : Nat → Bool} : YardAt (mpf w 1 y 6 (nI (bts q 8))) y (us D q) := ⟨h.1, by rw [mgf_pfn (by simp)]; exact h.n, mgf_pf, by rw [mgf_pfn (by simp)]; exact h.l, by rw [mgf_pfn (by simp)]; exact h.e, by rw [mgf_pfn (by simp)]; exact h.g, by rw [mgf_pfn (by simp)]; exact h.a⟩
theorem YardAt.pL (h : YardAt w y D) {x : Nat} : YardAt (mpf w 1 y 7 (nI x)) y (ul D x) := ⟨h.1, by rw [mgf_pfn (by simp)]; exact h.n, by rw [mgf_pfn (by simp)]; exact h.s, mgf_pf, by rw [mgf_pfn (by simp)]; exact h.e, by rw [mgf_pfn (by simp)]; exact h.g, by rw [mgf_pfn (by simp)]; exact h.a⟩
theorem YardAt.pE (h : YardAt w y D) {x : Nat} : YardAt (mpf w 1 y 8 (nI x)) y (ue D x) := ⟨h.1, by rw [mgf_pfn (by simp)]; exact h.n, by rw [mgf_pfn (by simp)]; exact h.s, by rw [mgf_pfn (by simp)]; exact h.l, mgf_pf, by rw [mgf_pfn (by simp)]; exact h.g, by rw [mgf_pfn (by simp)]; exact h.a⟩
theorem YardAt.pG (h : YardAt w y D) {x : Nat} : YardAt (mpf w 1 y 9 (nI x)) y (ug D x) := ⟨h.1, by rw [mgf_pfn (by simp)]; exact h.n, by rw [mgf_pfn (by simp)]; exact h.s, by rw [mgf_pfn (by simp)]; exact h.l, by rw [mgf_pfn (by simp)]; exact h.e, mgf_pf, by rw [mgf_pfn (by simp)]; exact h.a⟩
theorem YardAt.pa (h : YardAt w y D) {x : Nat} {v : Int32} (hv : v = enA x) : YardAt (mpf w 1 y 10 v) y (ua D x) := ⟨h.1, by rw [mgf_pfn (by simp)]; exact h.n, by rw [mgf_pfn (by simp)]; exact h.s, by rw [mgf_pfn (by simp)]; exact h.l, by rw [mgf_pfn (by simp)]; exact h.e, by rw [mgf_pfn (by simp)]; exact h.g, by rw [mgf_pf]; exact hv⟩
theorem YardAt.pk (h : YardAt w y D) {i v : Nat} : YardAt (mpA w 2 y (upd (mga w 2 y) i (nI v))) y (uk D (va_up (dk D) i v)) := ⟨⟨by rw [mga_pA]; exact upd_nI h.1.1, by rw [mga_pAn (by simp)]; exact h.1.2.1, by rw [mga_pAn (by simp)]; exact h.1.2.2.1, by rw [mga_pAn (by simp)]; exact h.1.2.2.2.1, by rw [mga_pAn (by simp)]; exact h.1.2.2.2.2⟩, h.2⟩
theorem YardAt.pc (h : YardAt w y D) {i v : Nat} : YardAt (mpA w 3 y (upd (mga w 3 y) i (nI v))) y (uc D (va_up (dc D) i v)) := ⟨⟨by rw [mga_pAn (by simp)]; exact h.1.1, by rw [mga_pA]; exact upd_nI h.1.2.1, by rw [mga_pAn (by simp)]; exact h.1.2.2.1, by rw [mga_pAn (by simp)]; exact h.1.2.2.2.1, by rw [mga_pAn (by simp)]; exact h.1.2.2.2.2⟩, h.2⟩
theorem YardAt.pF (h : YardAt w y D) {i v : Nat} : YardAt (mpA w 4 y (upd (mga w 4 y) i (nI v))) y (uf D (va_up (df D) i v)) := ⟨⟨by rw [mga_pAn (by simp)]; exact h.1.1, by rw [mga_pAn (by simp)]; exact h.1.2.1, by rw [mga_pA]; exact upd_nI h.1.2.2.1, by rw [mga_pAn (by simp)]; exact h.1.2.2.2.1, by rw [mga_pAn (by simp)]; exact h.1.2.2.2.2⟩, h.2⟩
theorem YardAt.pt (h : YardAt w y D) {i v : Nat} : YardAt (mpA w 5 y (upd (mga w 5 y) i (nI v))) y (ut D (va_up (dt D) i v)) := ⟨⟨by rw [mga_pAn (by simp)]; exact h.1.1, by rw [mga_pAn (by simp)]; exact h.1.2.1, by rw [mga_pAn (by simp)]; exact h.1.2.2.1, by rw [mga_pA]; exact upd_nI h.1.2.2.2.1, by rw [mga_pAn (by simp)]; exact h.1.2.2.2.2⟩, h.2⟩
theorem YardAt.pr (h : YardAt w y D) {i v : Nat} : YardAt (mpA w 6 y (upd (mga w 6 y) i (nI v))) y (ur D (va_up (dr D) i v)) := ⟨⟨by rw [mga_pAn (by simp)]; exact h.1.1, by rw [mga_pAn (by simp)]; exact h.1.2.1, by rw [mga_pAn (by simp)]; exact h.1.2.2.1, by rw [mga_pAn (by simp)]; exact h.1.2.2.2.1, by rw [mga_pA]; exact upd_nI h.1.2.2.2.2⟩, h.2⟩
end YA

/-! Least ways, in numbers alone. E i u v: over i one goes from u into v, at cost w i; wy_k: a walk of k steps from a source, of cost c; wy_d: the least cost. -/
def wy_k (E : Nat → Nat → Nat → Prop) (w : Nat → Nat) (src : Nat → Prop) : Nat → Nat → Nat → Prop
  | 0, v, c => src v ∧ c = 0
  | k + 1, v, c => ∃ u i c', wy_k E w src k u c' ∧ E i u v ∧ c = c' + w i
def wy_d (E : Nat → Nat → Nat → Prop) (w : Nat → Nat) (src : Nat → Prop) (v c : Nat) : Prop := (∃ k, wy_k E w src k v c) ∧ ∀ k c', wy_k E w src k v c' → c ≤ c'
noncomputable def wy_cnt (P : Nat → Prop) : Nat → Nat
  | 0 => 0
  | n + 1 => wy_cnt P n + @ite _ (P n) (Classical.propDecidable _) 1 0
theorem wy_cnt_mono {P Q : Nat → Prop} : ∀ n, (∀ u, u < n → P u → Q u) → wy_cnt P n ≤ wy_cnt Q n := by
  intro n
  induction n with
  | zero => intro _; exact Nat.le_refl _
  | succ n ih =>
    intro h
    have h1 := ih (fun u hu => h u (by omega))
    have h2 := h n (by omega)
    simp only [wy_cnt]
    by_cases hp : P n
    · rw [if_pos hp, if_pos (h2 hp)]; omega
    · rw [if_neg hp]; omega
theorem wy_cnt_lt {P Q : Nat → Prop} : ∀ n, (∀ u, u < n → P u → Q u) → (∃ u, u < n ∧ Q u ∧ ¬ P u) → wy_cnt P n < wy_cnt Q n := by
  intro n
  induction n with
  | zero => intro _ h; obtain ⟨u, hu, -⟩ := h; omega
  | succ n ih =>
    intro h hx
    obtain ⟨u, hu, hq, hp⟩ := hx
    have h2 := h n (by omega)
    have h3 := wy_cnt_mono n (fun u hu => h u (by omega))
    simp only [wy_cnt]
    by_cases hun : u = n
    · subst hun
      rw [if_neg hp, if_pos hq]; omega
    · have h1 := ih (fun u hu => h u (by omega)) ⟨u, by omega, hq, hp⟩
      by_cases hpn : P n
      · rw [if_pos hpn, if_pos (h2 hpn)]; omega
      · rw [if_neg hpn]; omega
theorem wy_cnt_le {P : Nat → Prop} : ∀ n, wy_cnt P n ≤ n := by
  intro n
  induction n with
  | zero => exact Nat.le_refl _
  | succ n ih =>
    simp only [wy_cnt]
    by_cases hp : P n
    · rw [if_pos hp]; omega
    · rw [if_neg hp]; omega
theorem wy_cnt_ltn {P : Nat → Prop} : ∀ n, (∃ u, u < n ∧ ¬ P u) → wy_cnt P n < n := by
  intro n
  induction n with
  | zero => intro h; obtain ⟨u, hu, -⟩ := h; omega
  | succ n ih =>
    intro h
    obtain ⟨u, hu, hp⟩ := h
    have h1 := wy_cnt_le (P := P) n
    simp only [wy_cnt]
    by_cases hun : u = n
    · subst hun
      rw [if_neg hp]; omega
    · have h2 := ih ⟨u, by omega, hp⟩
      by_cases hpn : P n
      · rw [if_pos hpn]; omega
      · rw [if_neg hpn]; omega
section WY
variable {E : Nat → Nat → Nat → Prop} {w : Nat → Nat} {src : Nat → Prop}
theorem wy_least {v : Nat} (h : ∃ k c, wy_k E w src k v c) : ∃ c, wy_d E w src v c := by
  obtain ⟨k, c, h⟩ := h
  obtain ⟨c0, ⟨k0, h0⟩, hm⟩ := pk_least (fun c => ∃ k, wy_k E w src k v c) ⟨c, k, h⟩
  refine ⟨c0, ⟨k0, h0⟩, fun k' c' h' => ?_⟩
  rcases Nat.lt_or_ge c' c0 with q | q
  · exact absurd ⟨k', h'⟩ (hm c' q)
  · exact q
theorem wy_d_uniq {v c c' : Nat} (h : wy_d E w src v c) (h' : wy_d E w src v c') : c = c' := by
  obtain ⟨⟨k, h1⟩, h2⟩ := h
  obtain ⟨⟨k', h1'⟩, h2'⟩ := h'
  exact Nat.le_antisymm (h2 _ _ h1') (h2' _ _ h1)
theorem wy_pre {v c : Nat} (h : wy_d E w src v c) : (src v ∧ c = 0) ∨ ∃ u i c', wy_d E w src u c' ∧ E i u v ∧ c = c' + w i := by
  obtain ⟨⟨k, h1⟩, h2⟩ := h
  cases k with
  | zero => exact Or.inl h1
  | succ k =>
    obtain ⟨u, i, c', h3, h4, h5⟩ := h1
    refine Or.inr ⟨u, i, c', ⟨⟨k, h3⟩, fun k' c'' h6 => ?_⟩, h4, h5⟩
    have := h2 (k' + 1) (c'' + w i) ⟨u, i, c'', h6, h4, rfl⟩
    omega
theorem wy_src {v : Nat} (h : src v) : wy_d E w src v 0 := ⟨⟨0, h, rfl⟩, fun _ _ _ => Nat.zero_le _⟩
theorem wy_d_le {v u i c c' : Nat} (h : wy_d E w src v c) (h' : wy_d E w src u c') (hE : E i u v) : c ≤ c' + w i := by
  obtain ⟨⟨k', h1'⟩, h2'⟩ := h'
  exact h.2 (k' + 1) _ ⟨u, i, c', h1', hE, rfl⟩
theorem wy_ex {v u i c' : Nat} (h' : wy_d E w src u c') (hE : E i u v) : ∃ c, wy_d E w src v c := by
  obtain ⟨⟨k', h1'⟩, h2'⟩ := h'
  exact wy_least ⟨k' + 1, _, u, i, c', h1', hE, rfl⟩
/-- how many of the first n are nearer than c -/
noncomputable def wy_r (E : Nat → Nat → Nat → Prop) (w : Nat → Nat) (src : Nat → Prop) (n c : Nat) : Nat := wy_cnt (fun u => ∃ c', wy_d E w src u c' ∧ c' < c) n
theorem wy_r_lt {n u c c' : Nat} (hu : u < n) (h : wy_d E w src u c') (hc : c' < c) : wy_r E w src n c' < wy_r E w src n c := by
  refine wy_cnt_lt n (fun x _ hx => ?_) ⟨u, hu, ⟨c', h, hc⟩, fun hx => ?_⟩
  · obtain ⟨y, h1, h2⟩ := hx
    exact ⟨y, h1, by omega⟩
  · obtain ⟨y, h1, h2⟩ := hx
    have := wy_d_uniq h h1
    omega
theorem wy_r_top {n v c : Nat} (hv : v < n) (h : wy_d E w src v c) : wy_r E w src n c < n := by
  refine wy_cnt_ltn n ⟨v, hv, fun hx => ?_⟩
  obtain ⟨y, h1, h2⟩ := hx
  have := wy_d_uniq h h1
  omega
/-- the least cost is at most so many steps -/
theorem wy_bound {n M : Nat} (hE : ∀ i u v, E i u v → u < n ∧ 0 < w i ∧ w i ≤ M) : ∀ (t v c : Nat), wy_d E w src v c → wy_r E w src n c ≤ t → c ≤ t * M := by
  intro t
  induction t with
  | zero =>
    intro v c h ht
    rcases wy_pre h with ⟨-, h0⟩ | ⟨u, i, c', h1, h2, h3⟩
    · omega
    · have h4 := hE i u v h2
      have h5 := wy_r_lt h4.1 h1 (show c' < c by omega)
      omega
  | succ t ih =>
    intro v c h ht
    rcases wy_pre h with ⟨-, h0⟩ | ⟨u, i, c', h1, h2, h3⟩
    · omega
    · have h4 := hE i u v h2
      have h5 := wy_r_lt h4.1 h1 (show c' < c by omega)
      have h6 := ih u c' h1 (by omega)
      rw [Nat.add_mul]
      omega
/-- one round over all steps: from f to g -/
def wy_P (E : Nat → Nat → Nat → Prop) (w : Nat → Nat) (inf : Nat) (f g : Nat → Nat) : Prop := (∀ v, g v ≤ f v) ∧ ∀ i u v, E i u v → f u < inf → g v ≤ f u + w i
/-- what holds before and behind each round: what is reached is reached by a walk of that cost; a source costs nothing -/
def wy_I (E : Nat → Nat → Nat → Prop) (w : Nat → Nat) (src : Nat → Prop) (inf : Nat) (f : Nat → Nat) : Prop := (∀ v, f v ≤ inf) ∧ (∀ v, f v < inf → ∃ k, wy_k E w src k v (f v)) ∧ ∀ v, src v → f v = 0
theorem wy_low {inf v c : Nat} {f : Nat → Nat} (hI : wy_I E w src inf f) (h : wy_d E w src v c) (hc : c ≤ inf) : c ≤ f v := by
  rcases Nat.lt_or_ge (f v) inf with q | q
  · obtain ⟨k, hk⟩ := hI.2.1 v q
    exact h.2 k _ hk
  · omega
/-- t rounds settle all of rank t -/
theorem wy_settle {n M inf : Nat} (hE : ∀ i u v, E i u v → u < n ∧ 0 < w i ∧ w i ≤ M) (hinf : n * M < inf) (F : Nat → Nat → Nat) (hI : ∀ t, wy_I E w src inf (F t)) (hP : ∀ t, wy_P E w inf (F t) (F (t + 1))) :
    ∀ (t v c : Nat), v < n → wy_d E w src v c → wy_r E w src n c ≤ t → F t v = c := by
  intro t
  induction t with
  | zero =>
    intro v c hv h ht
    rcases wy_pre h with ⟨hs, h0⟩ | ⟨u, i, c', h1, h2, h3⟩
    · rw [h0]; exact (hI 0).2.2 v hs
    · have h4 := hE i u v h2
      have h5 := wy_r_lt h4.1 h1 (show c' < c by omega)
      omega
  | succ t ih =>
    intro v c hv h ht
    have hb : c < inf := by
      have h7 := wy_bound hE n v c h (Nat.le_of_lt (wy_r_top hv h))
      omega
    have hlow := wy_low (hI (t + 1)) h (Nat.le_of_lt hb)
    rcases wy_pre h with ⟨hs, h0⟩ | ⟨u, i, c', h1, h2, h3⟩
    · rw [h0]; exact (hI _).2.2 v hs
    · have h4 := hE i u v h2
      have h5 := wy_r_lt h4.1 h1 (show c' < c by omega)
      have h6 := ih u c' h4.1 h1 (by omega)
      have h7 := (hP t).2 i u v h2 (by rw [h6]; omega)
      rw [h6] at h7
      omega
/-- a round that changes nothing has settled all -/
theorem wy_fix {n M inf : Nat} (hE : ∀ i u v, E i u v → u < n ∧ 0 < w i ∧ w i ≤ M) (hinf : n * M < inf) {f : Nat → Nat} (hI : wy_I E w src inf f) (hP : wy_P E w inf f f) {v c : Nat} (hv : v < n) (h : wy_d E w src v c) : f v = c :=
  wy_settle hE hinf (fun _ => f) (fun _ => hI) (fun _ => hP) (wy_r E w src n c) v c hv h (Nat.le_refl _)
/-- and what has no walk is not reached -/
theorem wy_none {inf v : Nat} {f : Nat → Nat} (hI : wy_I E w src inf f) (h : ∀ k c, ¬ wy_k E w src k v c) : f v = inf := by
  rcases Nat.lt_or_ge (f v) inf with q | q
  · obtain ⟨k, hk⟩ := hI.2.1 v q
    exact absurd hk (h k _)
  · exact Nat.le_antisymm (hI.1 v) q
/-- one step lowers: what it keeps -/
theorem wy_step {inf i u v : Nat} {f : Nat → Nat} (hI : wy_I E w src inf f) (hE : E i u v) (hu : f u < inf) (hlt : f u + w i < f v) : wy_I E w src inf (fun x => if x = v then f u + w i else f x) := by
  obtain ⟨h1, h2, h3⟩ := hI
  refine ⟨fun x => ?_, fun x hx => ?_, fun x hx => ?_⟩
  · by_cases e : x = v
    · simp only [e, if_true]; have := h1 v; omega
    · simp only [e, if_false]; exact h1 x
  · by_cases e : x = v
    · simp only [e, if_true] at hx ⊢
      obtain ⟨k, hk⟩ := h2 u hu
      exact ⟨k + 1, u, i, f u, hk, hE, rfl⟩
    · simp only [e, if_false] at hx ⊢
      exact h2 x hx
  · by_cases e : x = v
    · subst e
      have := h3 x hx
      omega
    · simp only [e, if_false]; exact h3 x hx
end WY

section
/-! OTHER NUMBERS FOR THE CELLS: f takes the old ones to new ones, g back; what lies beyond n keeps its number. The constructors make the cells in an order of their own; all else is told in the numbers of the shape. -/
def Prm (f g : Nat → Nat) (n : Nat) : Prop := (∀ c, f (g c) = c) ∧ (∀ c, g (f c) = c) ∧ ∀ c, c = 0 ∨ n < c → f c = c
theorem prm_sym {f g : Nat → Nat} {n : Nat} (h : Prm f g n) : Prm g f n := ⟨h.2.1, h.1, fun c hc => by
  have q := h.2.1 c
  rw [h.2.2 c hc] at q
  exact q⟩
theorem prm_in {f g : Nat → Nat} {n : Nat} (h : Prm f g n) {c N : Nat} (h1 : 1 ≤ c) (h2 : c ≤ N) (hn : n ≤ N) : 1 ≤ f c ∧ f c ≤ N := by
  by_cases hc : c ≤ n
  · have q : ¬ (f c = 0 ∨ n < f c) := fun z => by
      have e := congrArg g (h.2.2 (f c) z)
      rw [h.2.1, h.2.1] at e
      omega
    omega
  · rw [h.2.2 c (Or.inr (by omega))]
    omega
theorem prm_le {f g : Nat → Nat} {n : Nat} (h : Prm f g n) {c N : Nat} (h2 : c ≤ N) (hn : n ≤ N) : f c ≤ N := by
  by_cases e : c = 0
  · rw [h.2.2 c (Or.inl e)]; exact h2
  · exact (prm_in h (by omega) h2 hn).2
def pmS (f g : Nat → Nat) (S : AS) : AS := (S.1, ((fun c => sK S (g c)), fun c => sN S (g c)), ((fun c k => f (sR S (g c) k)), sx S))
def pmF (g : Nat → Nat) (F : AF) : AF := fun c k => F (g c) k
def pmG (g : Nat → Nat) (G : AG) : AG := fun c j => G (g c) j
theorem pm_back {f g : Nat → Nat} {n : Nat} (h : Prm f g n) (S : AS) : pmS g f (pmS f g S) = S := by
  obtain ⟨a, ⟨b, c⟩, d, e⟩ := S
  simp only [pmS, sK, sN, sR, sx, h.2.1]
theorem pmF_back {f g : Nat → Nat} {n : Nat} (h : Prm f g n) (F : AF) : pmF g (pmF f F) = F := by
  funext c k
  show F (f (g c)) k = F c k
  rw [h.1]
theorem pmG_back {f g : Nat → Nat} {n : Nat} (h : Prm f g n) (G : AG) : pmG g (pmG f G) = G := by
  funext c k
  show G (f (g c)) k = G c k
  rw [h.1]
theorem rf_rn {f g : Nat → Nat} {n : Nat} (h : Prm f g n) {ad : Nat → Nat} (r : Nat) : rf (fun c => ad (g c)) (f r) = rf ad r := by
  unfold rf
  by_cases e : r = 0
  · rw [h.2.2 r (Or.inl e), if_pos e, if_pos e]
  · have q : ¬ f r = 0 := fun z => by
      have := prm_in h (show 1 ≤ r by omega) (Nat.le_max_right n r) (Nat.le_max_left n r)
      omega
    rw [if_neg q, if_neg e]
    show some (ad (g (f r))) = some (ad r)
    rw [h.2.1]
theorem fv_rn {f g : Nat → Nat} {n : Nat} (h : Prm f g n) {ad : Nat → Nat} (t : Nat) (z : Int) (r : Nat) : fv (fun c => ad (g c)) t z (f r) = fv ad t z r := by
  unfold fv
  rw [rf_rn h]
theorem ce_rn {f g : Nat → Nat} {n : Nat} (h : Prm f g n) {ad : Nat → Nat} {ca : Nat → ClassId} {S : AS} {F : AF} {G : AG} (c : Nat) : ce (fun c => ad (g c)) (fun c => ca (g c)) (pmS f g S) (pmF g F) (pmG g G) c = ce ad ca S F G (g c) := by
  show ((if sK S (g c) < 11 then .inr (sK S (g c), (List.range (cN (sK S (g c)))).map (fun k => fv (fun c => ad (g c)) (fk (sK S (g c)) k) (F (g c) k) (f (sR S (g c) k)))) else if sK S (g c) = 21 then .inl (ca (g c), sN S (g c), .inr (.inl (fun j => Int64.ofInt (G (g c) j)))) else if sK S (g c) = 24 ∨ sK S (g c) = 25 then .inl (ca (g c), sN S (g c), .inr (.inr (.inr (.inr (fun j => rf (fun c => ad (g c)) (f (sR S (g c) j))))))) else .inl (ca (g c), sN S (g c), .inl (fun j => Int32.ofInt (G (g c) j)))) : va_E) = _
  simp only [fv_rn h, rf_rn h]
  rfl
theorem wl_rn {f g : Nat → Nat} {n : Nat} (h : Prm f g n) {ad : Nat → Nat} {ca : Nat → ClassId} {S : AS} {F : AF} {G : AG} (hn : n ≤ sn S) {k : Nat} {q : Nat × va_E} (hq : (wl (fun c => ad (g c)) (fun c => ca (g c)) (pmS f g S) (pmF g F) (pmG g G))[k]? = some q) : (wl ad ca S F G)[g (k + 1) - 1]? = some q ∧ 1 ≤ g (k + 1) := by
  have hk : k < sn S := by
    rcases Nat.lt_or_ge k (sn S) with z | z
    · exact z
    · rw [List.getElem?_eq_none (by rw [wl_len]; exact z)] at hq
      cases hq
  have e := wl_at (ad := fun c => ad (g c)) (ca := fun c => ca (g c)) (S := pmS f g S) (F := pmF g F) (G := pmG g G) (c := k + 1) (by omega) (show k + 1 ≤ sn S from hk)
  rw [Nat.add_sub_cancel, ce_rn h] at e
  have i := prm_in (prm_sym h) (show 1 ≤ k + 1 by omega) (show k + 1 ≤ sn S from hk) hn
  refine ⟨?_, i.1⟩
  rw [wl_at i.1 i.2]
  rw [e] at hq
  exact hq
theorem wl_nr {f g : Nat → Nat} {n : Nat} (h : Prm f g n) {ad : Nat → Nat} {ca : Nat → ClassId} {S : AS} {F : AF} {G : AG} (hn : n ≤ sn S) {k : Nat} {q : Nat × va_E} (hq : (wl ad ca S F G)[k]? = some q) : (wl (fun c => ad (g c)) (fun c => ca (g c)) (pmS f g S) (pmF g F) (pmG g G))[f (k + 1) - 1]? = some q := by
  have hk : k < sn S := by
    rcases Nat.lt_or_ge k (sn S) with z | z
    · exact z
    · rw [List.getElem?_eq_none (by rw [wl_len]; exact z)] at hq
      cases hq
  have i := prm_in h (show 1 ≤ k + 1 by omega) (show k + 1 ≤ sn S from hk) hn
  have e := wl_at (ad := fun c => ad (g c)) (ca := fun c => ca (g c)) (S := pmS f g S) (F := pmF g F) (G := pmG g G) (c := f (k + 1)) i.1 (show f (k + 1) ≤ sn S from i.2)
  rw [ce_rn h] at e
  have e2 := wl_at (ad := ad) (ca := ca) (S := S) (F := F) (G := G) (c := k + 1) (by omega) hk
  rw [Nat.add_sub_cancel] at e2
  rw [e2] at hq
  rw [e, ← hq]
  show some (ad (g (f (k + 1))), _) = _
  rw [h.2.1]
theorem vA_rn {f g : Nat → Nat} {n : Nat} (h : Prm f g n) {ad : Nat → Nat} {ca : Nat → ClassId} {S : AS} {F : AF} {G : AG} (hn : n ≤ sn S) (sz : Nat) : va_A (wl (fun c => ad (g c)) (fun c => ca (g c)) (pmS f g S) (pmF g F) (pmG g G)) sz = va_A (wl ad ca S F G) sz := by
  funext q
  refine propext ⟨fun z => ?_, fun z => ?_⟩
  · rcases z with ⟨k, e, z⟩ | z
    · exact Or.inl ⟨_, e, (wl_rn h hn z).1⟩
    · exact Or.inr z
  · rcases z with ⟨k, e, z⟩ | z
    · exact Or.inl ⟨_, e, wl_nr h hn z⟩
    · exact Or.inr z
theorem sm_rn {f g : Nat → Nat} {n : Nat} (h : Prm f g n) {D : va_G} {ad : Nat → Nat} {ca : Nat → ClassId} {tys : List (ClassId × FieldType)} {S : AS} {F : AF} {G : AG} {A : Nat → Prop} {H : Heap} {s : State} (hn : n ≤ sn S) (hm : Sm D ad ca tys S F G A H s) : Sm D (fun c => ad (g c)) (fun c => ca (g c)) tys (pmS f g S) (pmF g F) (pmG g G) A H s := by
  refine ⟨hm.1, fun k q hq => hm.2.1 _ q (wl_rn h hn hq).1, ⟨fun i j p q hi hj e => ?_, fun k q hq => hm.2.2.1.2 _ q (wl_rn h hn hq).1⟩, fun c c1 c2 c3 => ?_⟩
  · have ei := wl_rn h hn hi
    have ej := wl_rn h hn hj
    have e1 := hm.2.2.1.1 _ _ p q ei.1 ej.1 e
    have e2 : g (i + 1) = g (j + 1) := by
      have := ei.2
      have := ej.2
      omega
    have e3 := congrArg f e2
    rw [h.1, h.1] at e3
    omega
  · have i := prm_in (prm_sym h) c1 (show c ≤ sn S from c2) hn
    exact hm.2.2.2 (g c) i.1 i.2 c3
theorem rg_rn {f g : Nat → Nat} {n : Nat} (h : Prm f g n) {S : AS} {F : AF} {G : AG} (hn : n ≤ sn S) (hr : RG S F G) : RG (pmS f g S) (pmF g F) (pmG g G) := by
  refine ⟨fun c hc => ?_, fun c c1 c2 => ?_, fun c k => prm_le h (hr.2.2.1 (g c) k) hn, hr.2.2.2⟩
  · have hc2 : c = 0 ∨ sn S < c := hc
    show sK S (g c) = 99
    rw [(prm_sym h).2.2 c (by omega)]
    exact hr.1 c hc
  · have i := prm_in (prm_sym h) c1 (show c ≤ sn S from c2) hn
    exact hr.2.1 (g c) i.1 i.2
/-- what a call leaves may be told in other numbers, where those that were there before it keep theirs -/
theorem ok_post {f g : Nat → Nat} {n : Nat} (h : Prm f g n) {d : Nat} {M : AM} {av : List AV} {S : AS} {F : AF} {G : AG} {Q : AQ} (hf : ∀ c, c ≤ sn S → g c = c) (hO : Ok d M av S F G (fun r S' F' G' => r = none ∧ n ≤ sn S' ∧ Q none (pmS f g S') (pmF g F') (pmG g G'))) : Ok d M av S F G Q := by
  intro h1 h2
  obtain ⟨r, S', F', G', ⟨er, hn, hq⟩, z, m⟩ := hO h1 h2
  subst er
  refine ⟨none, pmS f g S', pmF g F', pmG g G', hq, ⟨z.1, z.2.1, z.2.2.1, z.2.2.2.1, rg_rn h hn z.2.2.2.2.1, fun v hv => by cases hv⟩, ?_⟩
  intro l D ad ca tys sz d' hd'
  refine MetFree.mono (m l D ad ca tys sz d' hd') (fun _ _ x => x) (fun _ _ _ _ _ x => x) (fun a st o t _ q => ⟨?_, q.2⟩)
  obtain ⟨⟨⟨ad1, ca1, tys1, e1, e2, e3⟩, q1⟩, _⟩ := q
  refine ⟨⟨fun c => ad1 (g c), fun c => ca1 (g c), tys1, e1, fun k hk => ?_, sm_rn h hn e3⟩, q1⟩
  show ad1 (g k) = ad k
  have hk2 : k ≤ sn S ∨ sn S' < k := hk
  rcases hk2 with hk2 | hk2
  · rw [hf k hk2]
    exact e2 k (Or.inl hk2)
  · rw [(prm_sym h).2.2 k (Or.inr (by omega))]
    exact e2 k (Or.inr hk2)
/-- a call may be told in other numbers, before it and behind it -/
theorem ok_conj {f g : Nat → Nat} {n : Nat} (h : Prm f g n) (hb : n < 999999) {d : Nat} {M : AM} {av av' : List AV} {S : AS} {F : AF} {G : AG} {Q : AQ} (hn : n ≤ sn S) (ha : ∀ ad : Nat → Nat, av.map (vt ad) = av'.map (vt (fun c => ad (g c)))) (hk : okS (sn S) av → okS (sn S) av') (hO : Ok d M av' (pmS f g S) (pmF g F) (pmG g G) (fun r S' F' G' => r = none ∧ n ≤ sn S' ∧ Q none (pmS g f S') (pmF f F') (pmG f G'))) : Ok d M av S F G Q := by
  intro h1 h2
  obtain ⟨r, S', F', G', ⟨er, hn', hq⟩, z, m⟩ := hO (rg_rn h hn h1) (hk h2)
  subst er
  refine ⟨none, pmS g f S', pmF f F', pmG f G', hq, ⟨z.1, z.2.1, z.2.2.1, z.2.2.2.1, rg_rn (prm_sym h) hn' z.2.2.2.2.1, fun v hv => by cases hv⟩, ?_⟩
  intro l D ad ca tys sz d' hd'
  have m1 := m l D (fun c => ad (g c)) (fun c => ca (g c)) tys sz d' hd'
  rw [vA_rn h hn sz] at m1
  refine MetFree.mono m1 (fun a U x => ?_) (fun _ _ _ _ _ x => x) (fun a st o t _ q => ⟨?_, q.2⟩)
  · obtain ⟨x1, x2, x3, x4, x5⟩ := x
    refine ⟨by rw [← ha ad]; exact x1, x2, x3, zStr_ad x4 (fun k hk => ?_), sm_rn h hn x5⟩
    show ad (g k) = ad k
    rw [(prm_sym h).2.2 k (Or.inr (by omega))]
  · obtain ⟨⟨⟨ad1, ca1, tys1, e1, e2, e3⟩, q1⟩, _⟩ := q
    refine ⟨⟨fun c => ad1 (f c), fun c => ca1 (f c), tys1, e1, fun k hk => ?_, sm_rn (prm_sym h) hn' e3⟩, q1⟩
    show ad1 (f k) = ad k
    have hk2 : k ≤ sn S ∨ sn S' < k := hk
    have e4 : ad1 (f k) = ad (g (f k)) := e2 (f k) (by
      rcases hk2 with q | q
      · exact Or.inl (show f k ≤ sn S from prm_le h q hn)
      · rw [h.2.2 k (Or.inr (by omega))]
        exact Or.inr q)
    rw [e4, h.2.1]
end


/-- the line of things up to a key -/
def LN (Ab : Mem) (d : Int) (c : Int) (L : Nat → Nat) (n : Nat) : Prop := (∀ i, i < n → L i < nT Ab ∧ Ab 2 (L i) = d ∧ keyT Ab (L i) < c) ∧ (∀ a b, a < b → b < n → keyT Ab (L a) < keyT Ab (L b)) ∧ (∀ t, t < nT Ab → Ab 2 t = d → keyT Ab t < c → ∃ i, i < n ∧ L i = t) ∧ (n : Int) = sumN (fun t => if Ab 2 t = d ∧ keyT Ab t < c then 1 else 0) (nT Ab)
theorem LN_le {Ab : Mem} {d c : Int} {L : Nat → Nat} {n : Nat} (h : LN Ab d c L n) : n ≤ nT Ab := by
  have b := sumN_bd (f := fun t => if Ab 2 t = d ∧ keyT Ab t < c then 1 else 0) (c := 1) (by decide) (n := nT Ab) (fun i _ => by split <;> decide)
  have := h.2.2.2
  omega
theorem LN_skip {Ab : Mem} {d c c2 : Int} {L : Nat → Nat} {n : Nat} (h : LN Ab d c L n) (hc : c ≤ c2) (hn : ∀ t, t < nT Ab → Ab 2 t = d → c ≤ keyT Ab t → c2 ≤ keyT Ab t) : LN Ab d c2 L n := by
  obtain ⟨h1, h2, h3, h4⟩ := h
  refine ⟨fun i hi => ⟨(h1 i hi).1, (h1 i hi).2.1, by have := (h1 i hi).2.2; omega⟩, h2, fun t ht hd hk => ?_, ?_⟩
  · by_cases q : keyT Ab t < c
    · exact h3 t ht hd q
    · have := hn t ht hd (by omega); omega
  · rw [h4]
    refine sumN_cong (fun t ht => if_iff ⟨fun z => ⟨z.1, by omega⟩, fun z => ⟨z.1, ?_⟩⟩)
    by_cases q : keyT Ab t < c
    · exact q
    · have := hn t ht z.1 (by omega); omega
theorem LN_add {Ab : Mem} {d : Int} {L : Nat → Nat} {n t : Nat} (ho : HallOK Ab) (ht : t < nT Ab) (hd : Ab 2 t = d) (h : LN Ab d (keyT Ab t) L n) : LN Ab d (keyT Ab t + 1) (fun i => if i = n then t else L i) (n + 1) := by
  obtain ⟨h1, h2, h3, h4⟩ := h
  have inj : ∀ u, u < nT Ab → keyT Ab u = keyT Ab t → u = t := fun u hu q => key_inj ho hu ht q
  obtain ⟨F, hF⟩ : ∃ F : Nat → Nat, F = fun i => if i = n then t else L i := ⟨_, rfl⟩
  have en : F n = t := by rw [hF]; exact if_pos rfl
  have eo : ∀ i, i ≠ n → F i = L i := fun i h => by rw [hF]; exact if_neg h
  rw [← hF]
  clear hF
  refine ⟨fun i hi => ?_, fun a b hab hb => ?_, fun u hu hud hk => ?_, ?_⟩
  · by_cases q : i = n
    · rw [q, en]; exact ⟨ht, hd, by omega⟩
    · rw [eo i q]
      have := h1 i (by omega)
      exact ⟨this.1, this.2.1, by omega⟩
  · rw [eo a (by omega)]
    by_cases q : b = n
    · rw [q, en]; exact (h1 a (by omega)).2.2
    · rw [eo b q]; exact h2 a b hab (by omega)
  · by_cases q : keyT Ab u < keyT Ab t
    · obtain ⟨i, hi, e⟩ := h3 u hu hud q
      exact ⟨i, by omega, by rw [eo i (by omega)]; exact e⟩
    · exact ⟨n, by omega, by rw [en]; exact (inj u hu (by omega)).symm⟩
  · have e := sumN_one (f := fun u => if Ab 2 u = d ∧ keyT Ab u < keyT Ab t then 1 else 0) (g := fun u => if Ab 2 u = d ∧ keyT Ab u < keyT Ab t + 1 then 1 else 0) (j := t) (c := 1) (n := nT Ab) ht (by
      show (if Ab 2 t = d ∧ keyT Ab t < keyT Ab t + 1 then (1 : Int) else 0) = (if Ab 2 t = d ∧ keyT Ab t < keyT Ab t then 1 else 0) + 1
      rw [if_pos ⟨hd, by omega⟩, if_neg (by omega)]
      rfl) (fun i hi hne => if_iff ⟨fun z => ⟨z.1, by
        by_cases q : keyT Ab i = keyT Ab t
        · exact absurd (inj i hi q) hne
        · omega⟩, fun z => ⟨z.1, by omega⟩⟩)
    rw [e, ← h4]
    omega
theorem LN_line {Ab : Mem} {d : Int} {L : Nat → Nat} {n : Nat} (ho : HallOK Ab) (h : LN Ab d 10000 L n) : LineOK Ab d (nT Ab) L n := by
  obtain ⟨h1, h2, h3, -⟩ := h
  refine ⟨fun i hi => ⟨(h1 i hi).1, (h1 i hi).2.1⟩, h2, fun t ht hd => h3 t ht hd ?_⟩
  have := (ho.2.2.2.2.2.2.1 t ht).2.2.2
  have n1 := nT_le ho
  unfold keyT
  omega
theorem sh335 : SH 335 = (1, 14, 0, 0) := rfl

def G_X11_bring : FN := fun as M Q => match as with
  | [.inr (.inl k), .inl d, .inl mi] => k = 159 ∧ mS cd2 (an_bring d mi) M Q
  | _ => False
def b_X11_bring_0 : List AT := [tx_al 0, tx_ic 0, tx_pi 11 0, tx_al 0, tx_il 1, tx_ic 0, tx_al 0, tx_gr 11 4, tx_ic 2, tx_ia, tx_ic 1, tx_bin f_sub, tx_call (nf G_X11_in) 3, tx_ifz r_ne 26, tx_ic 1, tx_fall 27]
def b_X11_bring_26 : List AT := [tx_ic 0, tx_fall 27]
def b_X11_bring_27 : List AT := [tx_ic 1, tx_ic 0, tx_callv 11 (nf G_X11_bad) 3, tx_ifz r_ne 60, tx_al 0, tx_il 2, tx_ic 0, tx_ic 999, tx_call (nf G_X11_in) 3, tx_ifz r_ne 51, tx_ic 1, tx_fall 52]
def b_X11_bring_51 : List AT := [tx_ic 0, tx_fall 52]
def b_X11_bring_52 : List AT := [tx_ic 2, tx_ic 1, tx_callv 11 (nf G_X11_bad) 3, tx_ifz r_eq 62, tx_fall 60]
def b_X11_bring_60 : List AT := [tx_ic 0, tx_ri]
def b_X11_bring_62 : List AT := [tx_ic 0, tx_is 3, tx_ic 0, tx_is 4, tx_ic 0, tx_is 5, tx_fall 70]
def b_X11_bring_70 : List AT := [tx_il 5, tx_ic 100, tx_cmp r_ge 144, tx_ic 0, tx_is 6, tx_fall 80]
def b_X11_bring_80 : List AT := [tx_il 6, tx_al 0, tx_gr 11 4, tx_ic 1, tx_ia, tx_cmp r_ge 138, tx_al 0, tx_gr 11 42, tx_il 6, tx_aa 5, tx_ic 2, tx_ia, tx_il 1, tx_cmp r_ne 132, tx_al 0, tx_gr 11 42, tx_il 6, tx_aa 5, tx_ic 3, tx_ia, tx_il 5, tx_cmp r_eq 121, tx_fall 132]
def b_X11_bring_121 : List AT := [tx_al 0, tx_gr 11 176, tx_il 3, tx_il 6, tx_iax, tx_inc 3 1, tx_fall 132]
def b_X11_bring_132 : List AT := [tx_inc 6 1, tx_fall 80]
def b_X11_bring_138 : List AT := [tx_inc 5 1, tx_fall 70]
def b_X11_bring_144 : List AT := [tx_ic 0, tx_is 5, tx_fall 147]
def b_X11_bring_147 : List AT := [tx_il 5, tx_ic 1, tx_il 3, tx_bin shlI, tx_cmp r_ge 274, tx_ic 0, tx_is 6, tx_ic 0, tx_is 7, tx_ic 0, tx_is 8, tx_fall 164]
def b_X11_bring_164 : List AT := [tx_il 8, tx_il 3, tx_cmp r_ge 246, tx_il 5, tx_il 8, tx_bin shrI, tx_ic 1, tx_bin andI, tx_ifz r_ne 183, tx_fall 240]
def b_X11_bring_183 : List AT := [tx_al 0, tx_gr 11 42, tx_al 0, tx_gr 11 176, tx_il 8, tx_ia, tx_aa 5, tx_as 9, tx_il 6, tx_al 9, tx_ic 3, tx_ia, tx_cmp r_le 211, tx_il 6, tx_fall 215]
def b_X11_bring_211 : List AT := [tx_al 9, tx_ic 3, tx_ia, tx_fall 215]
def b_X11_bring_215 : List AT := [tx_al 9, tx_ic 1, tx_ia, tx_al 0, tx_gr 11 118, tx_il 1, tx_ia, tx_call (nf G_X11_rounded) 2, tx_bin f_add, tx_is 6, tx_il 7, tx_al 9, tx_ic 1, tx_ia, tx_bin f_add, tx_is 7, tx_fall 240]
def b_X11_bring_240 : List AT := [tx_inc 8 1, tx_fall 164]
def b_X11_bring_246 : List AT := [tx_il 6, tx_il 2, tx_cmp r_gt 264, tx_il 7, tx_il 4, tx_cmp r_le 264, tx_il 7, tx_fall 266]
def b_X11_bring_264 : List AT := [tx_il 4, tx_fall 266]
def b_X11_bring_266 : List AT := [tx_is 4, tx_inc 5 1, tx_fall 147]
def b_X11_bring_274 : List AT := [tx_il 4, tx_ri]
def R_X11_bring (J : JT) (Q : QT) : Prop := (∀ ls st M, wpl J Q b_X11_bring_0 ls st M → J 0 ls st M) ∧ (∀ ls st M, wpl J Q b_X11_bring_26 ls st M → J 26 ls st M) ∧ (∀ ls st M, wpl J Q b_X11_bring_27 ls st M → J 27 ls st M) ∧ (∀ ls st M, wpl J Q b_X11_bring_51 ls st M → J 51 ls st M) ∧ (∀ ls st M, wpl J Q b_X11_bring_52 ls st M → J 52 ls st M) ∧ (∀ ls st M, wpl J Q b_X11_bring_60 ls st M → J 60 ls st M) ∧ (∀ ls st M, wpl J Q b_X11_bring_62 ls st M → J 62 ls st M) ∧ (∀ ls st M, wpl J Q b_X11_bring_70 ls st M → J 70 ls st M) ∧ (∀ ls st M, wpl J Q b_X11_bring_80 ls st M → J 80 ls st M) ∧ (∀ ls st M, wpl J Q b_X11_bring_121 ls st M → J 121 ls st M) ∧ (∀ ls st M, wpl J Q b_X11_bring_132 ls st M → J 132 ls st M) ∧ (∀ ls st M, wpl J Q b_X11_bring_138 ls st M → J 138 ls st M) ∧ (∀ ls st M, wpl J Q b_X11_bring_144 ls st M → J 144 ls st M) ∧ (∀ ls st M, wpl J Q b_X11_bring_147 ls st M → J 147 ls st M) ∧ (∀ ls st M, wpl J Q b_X11_bring_164 ls st M → J 164 ls st M) ∧ (∀ ls st M, wpl J Q b_X11_bring_183 ls st M → J 183 ls st M) ∧ (∀ ls st M, wpl J Q b_X11_bring_211 ls st M → J 211 ls st M) ∧ (∀ ls st M, wpl J Q b_X11_bring_215 ls st M → J 215 ls st M) ∧ (∀ ls st M, wpl J Q b_X11_bring_240 ls st M → J 240 ls st M) ∧ (∀ ls st M, wpl J Q b_X11_bring_246 ls st M → J 246 ls st M) ∧ (∀ ls st M, wpl J Q b_X11_bring_264 ls st M → J 264 ls st M) ∧ (∀ ls st M, wpl J Q b_X11_bring_266 ls st M → J 266 ls st M) ∧ (∀ ls st M, wpl J Q b_X11_bring_274 ls st M → J 274 ls st M)
theorem R_X11_bring_0 {J : JT} {Q : QT} (R : R_X11_bring J Q) {ls : Ls} {st : St} {M : Mem} (h : wpl J Q b_X11_bring_0 ls st M) : J 0 ls st M := R.1 ls st M h
theorem R_X11_bring_26 {J : JT} {Q : QT} (R : R_X11_bring J Q) {ls : Ls} {st : St} {M : Mem} (h : wpl J Q b_X11_bring_26 ls st M) : J 26 ls st M := R.2.1 ls st M h
theorem R_X11_bring_27 {J : JT} {Q : QT} (R : R_X11_bring J Q) {ls : Ls} {st : St} {M : Mem} (h : wpl J Q b_X11_bring_27 ls st M) : J 27 ls st M := R.2.2.1 ls st M h
theorem R_X11_bring_51 {J : JT} {Q : QT} (R : R_X11_bring J Q) {ls : Ls} {st : St} {M : Mem} (h : wpl J Q b_X11_bring_51 ls st M) : J 51 ls st M := R.2.2.2.1 ls st M h
theorem R_X11_bring_52 {J : JT} {Q : QT} (R : R_X11_bring J Q) {ls : Ls} {st : St} {M : Mem} (h : wpl J Q b_X11_bring_52 ls st M) : J 52 ls st M := R.2.2.2.2.1 ls st M h
theorem R_X11_bring_60 {J : JT} {Q : QT} (R : R_X11_bring J Q) {ls : Ls} {st : St} {M : Mem} (h : wpl J Q b_X11_bring_60 ls st M) : J 60 ls st M := R.2.2.2.2.2.1 ls st M h
theorem R_X11_bring_62 {J : JT} {Q : QT} (R : R_X11_bring J Q) {ls : Ls} {st : St} {M : Mem} (h : wpl J Q b_X11_bring_62 ls st M) : J 62 ls st M := R.2.2.2.2.2.2.1 ls st M h
theorem R_X11_bring_70 {J : JT} {Q : QT} (R : R_X11_bring J Q) {ls : Ls} {st : St} {M : Mem} (h : wpl J Q b_X11_bring_70 ls st M) : J 70 ls st M := R.2.2.2.2.2.2.2.1 ls st M h
theorem R_X11_bring_80 {J : JT} {Q : QT} (R : R_X11_bring J Q) {ls : Ls} {st : St} {M : Mem} (h : wpl J Q b_X11_bring_80 ls st M) : J 80 ls st M := R.2.2.2.2.2.2.2.2.1 ls st M h
theorem R_X11_bring_121 {J : JT} {Q : QT} (R : R_X11_bring J Q) {ls : Ls} {st : St} {M : Mem} (h : wpl J Q b_X11_bring_121 ls st M) : J 121 ls st M := R.2.2.2.2.2.2.2.2.2.1 ls st M h
theorem R_X11_bring_132 {J : JT} {Q : QT} (R : R_X11_bring J Q) {ls : Ls} {st : St} {M : Mem} (h : wpl J Q b_X11_bring_132 ls st M) : J 132 ls st M := R.2.2.2.2.2.2.2.2.2.2.1 ls st M h
theorem R_X11_bring_138 {J : JT} {Q : QT} (R : R_X11_bring J Q) {ls : Ls} {st : St} {M : Mem} (h : wpl J Q b_X11_bring_138 ls st M) : J 138 ls st M := R.2.2.2.2.2.2.2.2.2.2.2.1 ls st M h
theorem R_X11_bring_144 {J : JT} {Q : QT} (R : R_X11_bring J Q) {ls : Ls} {st : St} {M : Mem} (h : wpl J Q b_X11_bring_144 ls st M) : J 144 ls st M := R.2.2.2.2.2.2.2.2.2.2.2.2.1 ls st M h
theorem R_X11_bring_147 {J : JT} {Q : QT} (R : R_X11_bring J Q) {ls : Ls} {st : St} {M : Mem} (h : wpl J Q b_X11_bring_147 ls st M) : J 147 ls st M := R.2.2.2.2.2.2.2.2.2.2.2.2.2.1 ls st M h
theorem R_X11_bring_164 {J : JT} {Q : QT} (R : R_X11_bring J Q) {ls : Ls} {st : St} {M : Mem} (h : wpl J Q b_X11_bring_164 ls st M) : J 164 ls st M := R.2.2.2.2.2.2.2.2.2.2.2.2.2.2.1 ls st M h
theorem R_X11_bring_183 {J : JT} {Q : QT} (R : R_X11_bring J Q) {ls : Ls} {st : St} {M : Mem} (h : wpl J Q b_X11_bring_183 ls st M) : J 183 ls st M := R.2.2.2.2.2.2.2.2.2.2.2.2.2.2.2.1 ls st M h
theorem R_X11_bring_211 {J : JT} {Q : QT} (R : R_X11_bring J Q) {ls : Ls} {st : St} {M : Mem} (h : wpl J Q b_X11_bring_211 ls st M) : J 211 ls st M := R.2.2.2.2.2.2.2.2.2.2.2.2.2.2.2.2.1 ls st M h
theorem R_X11_bring_215 {J : JT} {Q : QT} (R : R_X11_bring J Q) {ls : Ls} {st : St} {M : Mem} (h : wpl J Q b_X11_bring_215 ls st M) : J 215 ls st M := R.2.2.2.2.2.2.2.2.2.2.2.2.2.2.2.2.2.1 ls st M h
theorem R_X11_bring_240 {J : JT} {Q : QT} (R : R_X11_bring J Q) {ls : Ls} {st : St} {M : Mem} (h : wpl J Q b_X11_bring_240 ls st M) : J 240 ls st M := R.2.2.2.2.2.2.2.2.2.2.2.2.2.2.2.2.2.2.1 ls st M h
theorem R_X11_bring_246 {J : JT} {Q : QT} (R : R_X11_bring J Q) {ls : Ls} {st : St} {M : Mem} (h : wpl J Q b_X11_bring_246 ls st M) : J 246 ls st M := R.2.2.2.2.2.2.2.2.2.2.2.2.2.2.2.2.2.2.2.1 ls st M h
theorem R_X11_bring_264 {J : JT} {Q : QT} (R : R_X11_bring J Q) {ls : Ls} {st : St} {M : Mem} (h : wpl J Q b_X11_bring_264 ls st M) : J 264 ls st M := R.2.2.2.2.2.2.2.2.2.2.2.2.2.2.2.2.2.2.2.2.1 ls st M h
theorem R_X11_bring_266 {J : JT} {Q : QT} (R : R_X11_bring J Q) {ls : Ls} {st : St} {M : Mem} (h : wpl J Q b_X11_bring_266 ls st M) : J 266 ls st M := R.2.2.2.2.2.2.2.2.2.2.2.2.2.2.2.2.2.2.2.2.2.1 ls st M h
theorem R_X11_bring_274 {J : JT} {Q : QT} (R : R_X11_bring J Q) {ls : Ls} {st : St} {M : Mem} (h : wpl J Q b_X11_bring_274 ls st M) : J 274 ls st M := R.2.2.2.2.2.2.2.2.2.2.2.2.2.2.2.2.2.2.2.2.2.2 ls st M h
theorem P_X11_bring {J : JT} {Q : QT} (R : R_X11_bring J Q) {as : List Vl} {M : Mem} (h : nf G_X11_bring as M Q) : (enL as).length ≤ 10 ∧ J 0 (padL 10 (enL as)) [] M := by
  unfold nf G_X11_bring at h
  split at h
  · rename_i k d mi
    obtain ⟨rfl, s, hM, hQ⟩ := h
    have h1 := hM.t0 0
    have e0 : up M 159 0 0 159 0 = 0 := up_eq
    have mf : MF M (up M 159 0 0) := MF.t0 M 0
    have no1 : ¬ (0 ≤ d ∧ d < s.1 10 3) → an_bring d mi s = nay s 1 := fun c => if_pos c
    have no2 : (0 ≤ d ∧ d < s.1 10 3) → ¬ (0 ≤ mi ∧ mi ≤ 999) → an_bring d mi s = nay s 2 := fun c1 c2 => (if_neg (fun z => z c1)).trans (if_pos c2)
    have body : (0 ≤ d ∧ d < s.1 10 3) → (0 ≤ mi ∧ mi ≤ 999) → J 62 [some (vR 159), some (vI d), some (vI mi), none, none, none, none, none, none, none] [] (up M 159 0 0) := by
      intro c1 c2
      have ea : an_bring d mi s = _ := (if_neg (fun z => z c1)).trans (if_neg (fun z => z c2))
      rw [ea] at hQ
      generalize up M 159 0 0 = M1 at h1 e0 mf
      have ho := h1.1.1
      have hth := h1.1.2.2.2.1
      obtain ⟨n1, n2⟩ := nT_le ho
      obtain ⟨d1, d2⟩ := nD_le ho
      have m1 := h1.1.2.1.2.1
      have dn' : d.toNat < nD s.1 := by omega
      have wd := ho.2.2.2.2.2.2.2.1 d.toNat dn'
      generalize hV : brF s.1 d mi = V at hQ
      have keep : ∀ M2 : Mem, (∀ u v, u ≠ 335 → M2 u v = M1 u v) → Mdl M2 s ∧ MF M M2 ∧ M2 159 0 = 0 := fun M2 f2 => ⟨h1.kept (fun u v hu => f2 u v (by unfold RC at hu; omega)) (by rw [f2 _ _ (by omega)]; exact h1.2.2.2.2.2.2.2), mf.tr (fun u v hu => f2 u v (by omega)), (f2 _ _ (by omega)).trans e0⟩
      -- the sets
      have sets : ∀ (M2 : Mem) (L : Nat → Nat) (n : Nat), (∀ u v, u ≠ 335 → M2 u v = M1 u v) → LineOK s.1 d (nT s.1) L n → n ≤ nT s.1 → (∀ i, i < n → M2 335 i = (L i : Int)) → ∀ i : Nat, i ≤ 2 ^ n → ∀ (x best : Int) (z6 z7 z8 z9 : Option Vl), x = (i : Int) → (∃ u, u < 2 ^ n ∧ tnF s.1 L u n ≤ mi ∧ wS (fun i => s.1 1 (L i)) u n = best) → (∀ u, u < i → tnF s.1 L u n ≤ mi → wS (fun i => s.1 1 (L i)) u n ≤ best) → J 147 [some (vR 159), some (vI d), some (vI mi), some (vI (n : Int)), some (vI best), some (vI x), z6, z7, z8, z9] [] M2 := by
        intro M2 L n f2 hl hn hL
        obtain ⟨k1, k2, k3⟩ := keep M2 f2
        have b14 := p14 (show n ≤ 14 by omega)
        have hth2 := k1.1.2.2.2.1
        have hLt : ∀ i, i < n → L i < nT s.1 := fun i hi => (hl.1 i hi).1
        have hps : ∀ i, i < n → 0 ≤ passF s.1 (L i) ∧ passF s.1 (L i) ≤ 99 := fun i hi => pass_bd ho (hLt i hi)
        have wb : ∀ u i, i ≤ n → 0 ≤ wS (fun i => s.1 1 (L i)) u i ∧ wS (fun i => s.1 1 (L i)) u i ≤ (i : Int) * 99 := fun u i hi => wS_bd (by decide) (fun j hj => by have := (ho.2.2.2.2.2.2.1 _ (hLt j (by omega))).2.1; omega) u
        refine dn ?_ ?_
        · intro x best z6 z7 z8 z9 hx hex hall
          refine R_X11_bring_147 R (bt (show shlI 1 (n : Int) ≤ x by rw [shl1 _ (by omega)]; omega) (R_X11_bring_274 R (hQ M2 best k2 k1 k3 (fun _ => ?_))))
          show best = V
          rw [← hV]
          exact brF_eq ho ⟨L, n, hl, hex, hall⟩
        · intro i hi ih x best z6 z7 z8 z9 hx hex hall
          have hxn : x.toNat = i := by omega
          obtain ⟨u0, hu0, hu1, hu2⟩ := hex
          have wu := wb u0 n (Nat.le_refl _)
          rw [hu2] at wu
          have at266 : ∀ (y z v : Int) (z8 z9 : Option Vl), y = tnF s.1 L i n → z = wS (fun i => s.1 1 (L i)) i n → v = (if tnF s.1 L i n ≤ mi ∧ best < wS (fun i => s.1 1 (L i)) i n then wS (fun i => s.1 1 (L i)) i n else best) → J 266 [some (vR 159), some (vI d), some (vI mi), some (vI (n : Int)), some (vI best), some (vI x), some (vI y), some (vI z), z8, z9] [vI v] M2 := by
            intro y z v z8 z9 hy hz hv
            refine R_X11_bring_266 R (ih _ v _ _ _ _ (wn hx (by omega)) ?_ (fun u hu htn => ?_))
            · by_cases q : tnF s.1 L i n ≤ mi ∧ best < wS (fun i => s.1 1 (L i)) i n
              · rw [if_pos q] at hv; exact ⟨i, hi, q.1, hv.symm⟩
              · rw [if_neg q] at hv; exact ⟨u0, hu0, hu1, by rw [hv]; exact hu2⟩
            · by_cases q : tnF s.1 L i n ≤ mi ∧ best < wS (fun i => s.1 1 (L i)) i n
              · rw [if_pos q] at hv
                by_cases q2 : u = i
                · subst q2; omega
                · have := hall u (by omega) htn; omega
              · rw [if_neg q] at hv
                by_cases q2 : u = i
                · subst q2; omega
                · have := hall u (by omega) htn; omega
          have inner : ∀ j : Nat, j ≤ n → ∀ (y z w8' : Int) (z9 : Option Vl), w8' = (j : Int) → y = tnF s.1 L i j → z = wS (fun i => s.1 1 (L i)) i j → J 164 [some (vR 159), some (vI d), some (vI mi), some (vI (n : Int)), some (vI best), some (vI x), some (vI y), some (vI z), some (vI w8'), z9] [] M2 := by
            refine dn ?_ ?_
            · intro y z w8' z9 hw hy hz
              refine R_X11_bring_164 R (bt (show (n : Int) ≤ w8' by omega) (R_X11_bring_246 R (br (fun g => R_X11_bring_264 R (at266 y z best _ _ hy hz ?_)) (fun g => br (fun g2 => R_X11_bring_264 R (at266 y z best _ _ hy hz ?_)) (fun g2 => at266 y z z _ _ hy hz ?_)))))
              · have g : mi < y := g
                rw [if_neg (by omega)]
              · have g2 : z ≤ best := g2
                rw [if_neg (by omega)]
              · have g : ¬ mi < y := g
                have g2 : ¬ z ≤ best := g2
                rw [if_pos (by omega)]
                exact hz
            · intro j hj ihj y z w8' z9 hw hy hz
              have hwn : w8'.toNat = j := by omega
              have bb := bit_and (x := x) (i := w8') (by omega) (by omega) (by omega) (by omega)
              have bc : bitB x w8' = i.testBit j := by unfold bitB; rw [hxn, hwn]
              rw [bc] at bb
              have ltj := hLt j hj
              have tnb := tn_bd ho hLt hps i (i := j) (by omega)
              have wbb := wb i j (by omega)
              obtain ⟨t0, t1, t2', t3⟩ := hth2 (L j) ltj
              have oj := ho.2.2.2.2.2.2.1 (L j) ltj
              have eln : M2 (159 + 176) w8'.toNat = (L j : Int) := by rw [hwn]; exact hL j hj
              have rowe : (SH (159 + 42)).2.2.1 + (SH (159 + 42)).2.2.2 * ((L j : Nat) : Int).toNat = 202 + L j := th_row (Int.toNat_natCast _)
              refine R_X11_bring_164 R (bf (show ¬ (n : Int) ≤ w8' by omega) (br (fun g => R_X11_bring_183 R (an o159 (an o159 (an (ak_of sh335 (by omega) (by omega)) ?_)))) (fun g => R_X11_bring_240 R (ihj _ _ _ _ (wn hw (by omega)) ?_ ?_))))
              · have g : ¬ andI (shrI x w8') 1 = 0 := g
                rw [bb] at g
                have hbit : i.testBit j = true := by
                  cases h9 : i.testBit j with
                  | true => rfl
                  | false => rw [h9] at g; exact absurd rfl g
                rw [eln]
                refine an (ak_of sh201 (by omega) (by omega)) ?_
                rw [rowe]
                have pf : passF s.1 (L j) = (s.1 1 (L j) + s.1 6 d.toNat - 1) / s.1 6 d.toNat := by
                  unfold passF
                  rw [(hl.1 j hj).2, if_neg (by omega)]
                have pb := hps j hj
                refine an (ak_of (sh_th _ (by omega)) (by decide) (by decide)) ?_
                rw [show M2 (202 + L j) (Int.toNat 3) = s.1 3 (L j) from t3]
                have at215 : ∀ v : Int, v = max y (s.1 3 (L j)) → J 215 [some (vR 159), some (vI d), some (vI mi), some (vI (n : Int)), some (vI best), some (vI x), some (vI y), some (vI z), some (vI w8'), some (vR (202 + L j))] [vI v] M2 := by
                  intro v hv
                  refine R_X11_bring_215 R (an (ak_of (sh_th _ (by omega)) (by decide) (by decide)) (an o159 (an (ak_of sh277 c1.1 (by omega)) ?_)))
                  rw [show M2 (202 + L j) (Int.toNat 1) = s.1 1 (L j) from t1, show M2 (159 + 118) d.toNat = s.1 6 d.toNat from k1.1.2.2.2.2.1 d.toNat dn']
                  refine ⟨⟨by omega, by omega, by omega, by omega⟩, an (ak_of (sh_th _ (by omega)) (by decide) (by decide)) ?_⟩
                  rw [← pf, show M2 (202 + L j) (Int.toNat 1) = s.1 1 (L j) from t1]
                  refine R_X11_bring_240 R (ihj _ _ _ _ (wn hw (by omega)) ?_ ?_)
                  · rw [tnF, if_pos hbit, hv, hy]
                    exact w1 (by omega) (by omega) rfl
                  · have e9 : wS (fun i => s.1 1 (L i)) i (j + 1) = wS (fun i => s.1 1 (L i)) i j + s.1 1 (L j) := by
                      unfold wS
                      rw [sumN, if_pos hbit]
                    rw [e9, hz]
                    exact w1 (by omega) (by omega) rfl
                refine br (fun g2 => R_X11_bring_211 R (an (ak_of (sh_th _ (by omega)) (by decide) (by decide)) (at215 _ ?_))) (fun g2 => at215 _ ?_)
                · have g2 : y ≤ s.1 3 (L j) := g2
                  rw [show M2 (202 + L j) (Int.toNat 3) = s.1 3 (L j) from t3]
                  omega
                · have g2 : ¬ y ≤ s.1 3 (L j) := g2
                  omega
              · have g : andI (shrI x w8') 1 = 0 := Classical.not_not.mp g
                rw [bb] at g
                have hbit : ¬ i.testBit j = true := fun z => by rw [z] at g; exact absurd g (by decide)
                rw [tnF, if_neg hbit]; exact hy
              · have g : andI (shrI x w8') 1 = 0 := Classical.not_not.mp g
                rw [bb] at g
                have hbit : ¬ i.testBit j = true := fun z => by rw [z] at g; exact absurd g (by decide)
                have e9 : wS (fun i => s.1 1 (L i)) i (j + 1) = wS (fun i => s.1 1 (L i)) i j := by
                  unfold wS
                  rw [sumN, if_neg hbit]
                  omega
                rw [e9]; exact hz
          exact R_X11_bring_147 R (bf (show ¬ shlI 1 (n : Int) ≤ x by rw [shl1 _ (by omega)]; omega) (inner 0 (Nat.zero_le _) _ _ _ _ rfl rfl rfl))
      -- the line
      have line : ∀ a : Nat, a ≤ 100 → ∀ (x : Int) (M2 : Mem) (L : Nat → Nat) (n : Nat) (z6 : Option Vl), x = (a : Int) → (∀ u v, u ≠ 335 → M2 u v = M1 u v) → LN s.1 d (100 * (a : Int)) L n → (∀ i, i < n → M2 335 i = (L i : Int)) → J 70 [some (vR 159), some (vI d), some (vI mi), some (vI (n : Int)), some (vI 0), some (vI x), z6, none, none, none] [] M2 := by
        refine dn ?_ ?_
        · intro x M2 L n z6 hx f2 hl hL
          refine R_X11_bring_70 R (bt (show (100 : Int) ≤ x by omega) (R_X11_bring_144 R (sets M2 L n f2 (LN_line ho hl) (LN_le hl) hL 0 (Nat.zero_le _) _ _ _ _ _ _ rfl ⟨0, Nat.pow_pos (by decide), by rw [tn_0]; exact c2.1, wS_0 _ _⟩ (fun u hu => absurd hu (Nat.not_lt_zero u)))))
        · intro a ha ih x M2 L n z6 hx f2 hl hL
          have inner : ∀ t : Nat, t ≤ nT s.1 → ∀ (y : Int) (M2 : Mem) (L : Nat → Nat) (n : Nat), y = (t : Int) → (∀ u v, u ≠ 335 → M2 u v = M1 u v) → LN s.1 d (100 * (a : Int) + (t : Int)) L n → (∀ i, i < n → M2 335 i = (L i : Int)) → J 80 [some (vR 159), some (vI d), some (vI mi), some (vI (n : Int)), some (vI 0), some (vI x), some (vI y), none, none, none] [] M2 := by
            refine dn ?_ ?_
            · intro y M2 L n hy f2 hl hL
              have e1 : M2 163 1 = s.1 10 2 := (f2 _ _ (by omega)).trans m1
              refine R_X11_bring_80 R (an o159 (an (ak_of sh163 (by decide) (by decide)) (bt (show M2 163 1 ≤ y by rw [e1]; omega) (R_X11_bring_138 R (ih _ M2 L n _ (wn hx (by omega)) f2 (LN_skip hl (by omega) (fun t ht hd hk => ?_)) hL)))))
              unfold keyT at hk ⊢
              omega
            · intro t ht iht y M2 L n hy f2 hl hL
              have hyn : y.toNat = t := by omega
              have e1 : M2 163 1 = s.1 10 2 := (f2 _ _ (by omega)).trans m1
              have k1 := (keep M2 f2).1
              obtain ⟨t0, t1, t2', t3⟩ := k1.1.2.2.2.1 t ht
              have ot := (ho.2.2.2.2.2.2.1 t ht).2.2.2
              have skip : ¬ (s.1 2 t = d ∧ s.1 3 t = (a : Int)) → J 132 [some (vR 159), some (vI d), some (vI mi), some (vI (n : Int)), some (vI 0), some (vI x), some (vI y), none, none, none] [] M2 := by
                intro hc
                refine R_X11_bring_132 R (iht _ M2 L n (wn hy (by omega)) f2 (LN_skip hl (by omega) (fun u hu hud hk => ?_)) hL)
                have ou := (ho.2.2.2.2.2.2.1 u hu).2.2.2
                by_cases q : u = t
                · subst q
                  unfold keyT at hk ⊢
                  omega
                · unfold keyT at hk ⊢
                  omega
              refine R_X11_bring_80 R (an o159 (an (ak_of sh163 (by decide) (by decide)) (bf (show ¬ M2 163 1 ≤ y by rw [e1]; omega) (an o159 (an (ak_of sh201 (by omega) (by omega)) ?_)))))
              rw [th_row hyn]
              refine an (ak_of (sh_th t (by omega)) (by decide) (by decide)) ?_
              rw [show M2 (202 + t) (Int.toNat 2) = s.1 2 t from t2']
              refine br (fun g => skip (fun z => g z.1)) (fun g => an o159 (an (ak_of sh201 (by omega) (by omega)) ?_))
              have g : s.1 2 t = d := Classical.not_not.mp g
              rw [th_row hyn]
              refine an (ak_of (sh_th t (by omega)) (by decide) (by decide)) ?_
              rw [show M2 (202 + t) (Int.toNat 3) = s.1 3 t from t3]
              refine br (fun g2 => ?_) (fun g2 => skip (fun z => g2 (by rw [hx]; exact z.2)))
              have g2 : s.1 3 t = x := g2
              have ek : keyT s.1 t = 100 * (a : Int) + (t : Int) := by unfold keyT; omega
              rw [← ek] at hl
              have nl := LN_add ho ht g hl
              have nle := LN_le nl
              refine R_X11_bring_121 R (an o159 (an (ak_of sh335 (by omega) (by omega)) ?_))
              show J 132 [some (vR 159), some (vI d), some (vI mi), some (vI (w32 ((n : Int) + 1))), some (vI 0), some (vI x), some (vI y), none, none, none] [] (up M2 335 ((n : Int)).toNat y)
              rw [wn (n := n) rfl (by omega), Int.toNat_natCast]
              refine R_X11_bring_132 R (iht _ _ (fun i => if i = n then t else L i) (n + 1) (wn hy (by omega)) (fun u v hu => ?_) (LN_skip nl (by omega) (fun u hu hud hk => by omega)) (fun i hi => ?_))
              · rw [up_ne (by omega)]; exact f2 u v hu
              · by_cases q : i = n
                · subst q; rw [up_eq, if_pos rfl]; exact hy
                · rw [up_ne (by omega), if_neg q]; exact hL i (by omega)
          refine R_X11_bring_70 R (bf (show ¬ (100 : Int) ≤ x by omega) (inner 0 (Nat.zero_le _) _ M2 L n rfl f2 ?_ hL))
          rw [show (100 * (a : Int) + ((0 : Nat) : Int)) = 100 * (a : Int) by omega]
          exact hl
      refine R_X11_bring_62 R (line 0 (by decide) _ M1 (fun _ => 0) 0 _ rfl (fun _ _ _ => rfl) ⟨fun i hi => absurd hi (Nat.not_lt_zero i), fun a b _ hb => absurd hb (Nat.not_lt_zero b), fun t ht hd hk => ?_, ?_⟩ (fun i hi => absurd hi (Nat.not_lt_zero i)))
      · have ot := (ho.2.2.2.2.2.2.1 t ht).2.2.2
        unfold keyT at hk
        omega
      · rw [sumN_0 (fun t ht => ?_)]
        · rfl
        · have ot := (ho.2.2.2.2.2.2.1 t ht).2.2.2
          rw [if_neg]
          unfold keyT
          omega
    have atB : (0 ≤ d ∧ d < s.1 10 3) → ∀ b : Int, (b = 0 ∧ (0 ≤ mi ∧ mi ≤ 999)) ∨ (b = 1 ∧ ¬ (0 ≤ mi ∧ mi ≤ 999)) → J 52 [some (vR 159), some (vI d), some (vI mi), none, none, none, none, none, none, none] [vI b, vR 159] (up M 159 0 0) := by
      intro c1 b hb
      rcases hb with ⟨rfl, c2⟩ | ⟨rfl, c2⟩
      · exact R_X11_bring_52 R (an o159 ⟨⟨rfl, by decide, by decide, e0⟩, fun z => absurd rfl z, fun _ => bt rfl (body c1 c2)⟩)
      · exact R_X11_bring_52 R (an o159 ⟨⟨rfl, by decide, by decide, e0⟩, fun _ => bf (by decide) (R_X11_bring_60 R (m_no (cd := cd2) (Q := fun r M' => Q (.inl r) M') hM 2 2 (by decide) rfl (no2 c1 c2) 0 hQ)), fun z => absurd z (by decide)⟩)
    have at1 : ∀ b : Int, (b = 0 ∧ (0 ≤ d ∧ d < s.1 10 3)) ∨ (b = 1 ∧ ¬ (0 ≤ d ∧ d < s.1 10 3)) → J 27 [some (vR 159), some (vI d), some (vI mi), none, none, none, none, none, none, none] [vI b, vR 159] (up M 159 0 0) := by
      intro b hb
      rcases hb with ⟨rfl, c1⟩ | ⟨rfl, c1⟩
      · exact R_X11_bring_27 R (an o159 ⟨⟨rfl, by decide, by decide, e0⟩, fun z => absurd rfl z, fun _ => bf (by decide) (br (fun d0 => bt (by decide) (R_X11_bring_51 R (atB c1 0 (Or.inl ⟨rfl, by omega⟩)))) (fun d0 => bf (by decide) (atB c1 1 (Or.inr ⟨rfl, by omega⟩))))⟩)
      · exact R_X11_bring_27 R (an o159 ⟨⟨rfl, by decide, by decide, e0⟩, fun _ => bt (by decide) (R_X11_bring_60 R (m_no (cd := cd2) (Q := fun r M' => Q (.inl r) M') hM 1 1 (by decide) rfl (no1 c1) 0 hQ)), fun z => absurd z (by decide)⟩)
    refine ⟨Nat.le_of_ble_eq_true rfl, R_X11_bring_0 R (an o159 (an o159 (an (ak_of sh163 (by decide) (by decide)) ?_)))⟩
    rw [show up M 159 0 0 (159 + 4) (Int.toNat 2) = s.1 10 3 from h1.1.2.1.2.2.1]
    have db := h1.1.1.2.2.1
    have es : f_sub (s.1 10 3) 1 = s.1 10 3 - 1 := sb1 db.1 (by omega)
    show ((0 ≤ d ∧ d ≤ f_sub (s.1 10 3) 1) → _) ∧ (¬ (0 ≤ d ∧ d ≤ f_sub (s.1 10 3) 1) → _)
    rw [es]
    exact br (fun d0 => bt (by decide) (R_X11_bring_26 R (at1 0 (Or.inl ⟨rfl, by omega⟩)))) (fun d0 => bf (by decide) (at1 1 (Or.inr ⟨rfl, by omega⟩)))

  · exact h.elim
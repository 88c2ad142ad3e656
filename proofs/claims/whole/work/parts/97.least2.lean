def G_X11_findLeast : FN := fun as M Q => match as with
  | [.inr (.inl k), .inl m] => ∃ Ab, (k = 159 ∧ (0 ≤ m ∧ m < Ab 10 4) ∧ (0 ≤ M 159 37 ∧ M 159 37 ≤ 1000) ∧ M 159 35 = -1) ∧ MdP M Ab ∧ MdL M Ab ∧ ∀ M' : Mem, (∀ u v, (u < 292 ∨ 335 ≤ u) → ¬ (u = 159 ∧ (v = 36 ∨ v = 43 ∨ v = 44)) → M' u v = M u v) → M' 159 43 = lpF Ab m.toNat (cnM Ab m.toNat 0 1) → M' 159 44 = lsF Ab m.toNat (cnM Ab m.toNat 0 1) → Q none M'
  | _ => False
def b_X11_findLeast_0 : List AT := [tx_ic 0, tx_is 2, tx_al 0, tx_gr 11 66, tx_il 1, tx_aa 5, tx_ic 1, tx_ia, tx_is 3, tx_al 0, tx_callv 11 (nf G_X11_goesAll) 0, tx_al 0, tx_gr 11 139, tx_il 1, tx_aa 6, tx_ic 0, tx_aa 5, tx_ic 1, tx_ia, tx_is 4, tx_ic 0, tx_is 5, tx_fall 30]
def b_X11_findLeast_30 : List AT := tx_il 5 :: tx_al 0 :: tx_gr 11 4 :: tx_ic 1 :: tx_ia :: tx_cmp r_ge 96 :: tx_il 2 :: tx_ic 10 :: tx_cmp r_ge 96 :: tx_al 0 :: tx_gr 11 42 :: tx_il 5 :: tx_aa 5 :: tx_ic 2 :: tx_ia :: tx_ic (-1) :: tx_cmp r_ne 90 :: tx_il 3 :: tx_al 0 :: tx_gr 11 42 :: tx_il 5 :: tx_aa 5 :: tx_ic 0 :: tx_ia :: tx_bin shrI :: tx_ic 1 :: tx_bin andI :: tx_ifz r_ne 79 :: tx_fall 90 :: []
def b_X11_findLeast_79 : List AT := [tx_al 0, tx_gr 11 175, tx_il 2, tx_il 5, tx_iax, tx_inc 2 1, tx_fall 90]
def b_X11_findLeast_90 : List AT := [tx_inc 5 1, tx_fall 30]
def b_X11_findLeast_96 : List AT := [tx_ic 0, tx_is 5, tx_fall 99]
def b_X11_findLeast_99 : List AT := [tx_il 5, tx_ic 1, tx_il 2, tx_bin shlI, tx_cmp r_ge 192, tx_al 0, tx_gr 11 174, tx_il 5, tx_ic 0, tx_iax, tx_ic 0, tx_is 6, tx_fall 118]
def b_X11_findLeast_118 : List AT := tx_il 6 :: tx_il 2 :: tx_cmp r_ge 169 :: tx_al 0 :: tx_gr 11 174 :: tx_il 5 :: tx_dup2 :: tx_ia :: tx_il 5 :: tx_il 6 :: tx_bin shrI :: tx_ic 1 :: tx_bin andI :: tx_ic 1 :: tx_cmp r_ne 160 :: tx_al 0 :: tx_gr 11 42 :: tx_al 0 :: tx_gr 11 175 :: tx_il 6 :: tx_ia :: tx_aa 5 :: tx_ic 1 :: tx_ia :: tx_fall 161 :: []
def b_X11_findLeast_160 : List AT := [tx_ic 0, tx_fall 161]
def b_X11_findLeast_161 : List AT := [tx_bin f_add, tx_iax, tx_inc 6 1, tx_fall 118]
def b_X11_findLeast_169 : List AT := [tx_al 0, tx_gr 11 172, tx_il 5, tx_il 5, tx_ifz r_ne 184, tx_ic 1, tx_fall 185]
def b_X11_findLeast_184 : List AT := [tx_ic 0, tx_fall 185]
def b_X11_findLeast_185 : List AT := [tx_zax, tx_inc 5 1, tx_fall 99]
def b_X11_findLeast_192 : List AT := [tx_ic 0, tx_is 5, tx_fall 195]
def b_X11_findLeast_195 : List AT := [tx_il 5, tx_al 0, tx_gr 11 4, tx_ic 0, tx_ia, tx_cmp r_ge 378, tx_il 3, tx_il 5, tx_bin shrI, tx_ic 1, tx_bin andI, tx_ifz r_ne 218, tx_fall 372]
def b_X11_findLeast_218 : List AT := [tx_ic 60, tx_al 0, tx_gr 11 16, tx_il 5, tx_aa 5, tx_ic 1, tx_ia, tx_bin f_mul, tx_al 0, tx_gr 11 66, tx_il 1, tx_aa 5, tx_ic 0, tx_ia, tx_ic 1, tx_bin f_add, tx_div, tx_is 6, tx_ic 0, tx_is 7, tx_fall 246]
def b_X11_findLeast_246 : List AT := [tx_il 7, tx_ic 1, tx_il 2, tx_bin shlI, tx_cmp r_ge 341, tx_al 0, tx_gr 11 173, tx_il 7, tx_ic 0, tx_zax, tx_il 7, tx_is 8, tx_fall 266]
def b_X11_findLeast_266 : List AT := [tx_al 0, tx_gr 11 173, tx_il 7, tx_al 0, tx_gr 11 173, tx_il 7, tx_za, tx_ifz r_ne 309, tx_al 0, tx_gr 11 174, tx_il 8, tx_ia, tx_il 6, tx_cmp r_gt 313, tx_al 0, tx_gr 11 172, tx_il 7, tx_il 8, tx_ic (-1), tx_bin xorI, tx_bin andI, tx_za, tx_ifz r_eq 313, tx_fall 309]
def b_X11_findLeast_309 : List AT := [tx_ic 1, tx_fall 314]
def b_X11_findLeast_313 : List AT := [tx_ic 0, tx_fall 314]
def b_X11_findLeast_314 : List AT := [tx_zax, tx_il 8, tx_ifz r_ne 323, tx_fall 335]
def b_X11_findLeast_323 : List AT := [tx_il 8, tx_ic 1, tx_bin f_sub, tx_il 7, tx_bin andI, tx_is 8, tx_fall 266]
def b_X11_findLeast_335 : List AT := [tx_inc 7 1, tx_fall 246]
def b_X11_findLeast_341 : List AT := [tx_ic 0, tx_is 7, tx_fall 344]
def b_X11_findLeast_344 : List AT := [tx_il 7, tx_ic 1, tx_il 2, tx_bin shlI, tx_cmp r_ge 372, tx_al 0, tx_gr 11 172, tx_il 7, tx_al 0, tx_gr 11 173, tx_il 7, tx_za, tx_zax, tx_inc 7 1, tx_fall 344]
def b_X11_findLeast_372 : List AT := [tx_inc 5 1, tx_fall 195]
def b_X11_findLeast_378 : List AT := [tx_al 0, tx_ic (-1), tx_pi 11 43, tx_al 0, tx_ic (-1), tx_pi 11 44, tx_ic 0, tx_is 5, tx_fall 391]
def b_X11_findLeast_391 : List AT := tx_il 5 :: tx_ic 1 :: tx_il 2 :: tx_bin shlI :: tx_cmp r_ge 469 :: tx_al 0 :: tx_gr 11 172 :: tx_il 5 :: tx_za :: tx_ifz r_eq 463 :: tx_al 0 :: tx_gr 11 174 :: tx_il 5 :: tx_ia :: tx_il 4 :: tx_cmp r_le 463 :: tx_al 0 :: tx_gi 11 43 :: tx_ic (-1) :: tx_cmp r_eq 446 :: tx_al 0 :: tx_gr 11 174 :: tx_il 5 :: tx_ia :: tx_al 0 :: tx_gi 11 43 :: tx_cmp r_lt 446 :: tx_fall 463 :: []
def b_X11_findLeast_446 : List AT := [tx_al 0, tx_al 0, tx_gr 11 174, tx_il 5, tx_ia, tx_pi 11 43, tx_al 0, tx_il 5, tx_pi 11 44, tx_fall 463]
def b_X11_findLeast_463 : List AT := [tx_inc 5 1, tx_fall 391]
def b_X11_findLeast_469 : List AT := [tx_rv]
def R_X11_findLeast (J : JT) (Q : QT) : Prop := (∀ ls st M, wpl J Q b_X11_findLeast_0 ls st M → J 0 ls st M) ∧ (∀ ls st M, wpl J Q b_X11_findLeast_30 ls st M → J 30 ls st M) ∧ (∀ ls st M, wpl J Q b_X11_findLeast_79 ls st M → J 79 ls st M) ∧ (∀ ls st M, wpl J Q b_X11_findLeast_90 ls st M → J 90 ls st M) ∧ (∀ ls st M, wpl J Q b_X11_findLeast_96 ls st M → J 96 ls st M) ∧ (∀ ls st M, wpl J Q b_X11_findLeast_99 ls st M → J 99 ls st M) ∧ (∀ ls st M, wpl J Q b_X11_findLeast_118 ls st M → J 118 ls st M) ∧ (∀ ls st M, wpl J Q b_X11_findLeast_160 ls st M → J 160 ls st M) ∧ (∀ ls st M, wpl J Q b_X11_findLeast_161 ls st M → J 161 ls st M) ∧ (∀ ls st M, wpl J Q b_X11_findLeast_169 ls st M → J 169 ls st M) ∧ (∀ ls st M, wpl J Q b_X11_findLeast_184 ls st M → J 184 ls st M) ∧ (∀ ls st M, wpl J Q b_X11_findLeast_185 ls st M → J 185 ls st M) ∧ (∀ ls st M, wpl J Q b_X11_findLeast_192 ls st M → J 192 ls st M) ∧ (∀ ls st M, wpl J Q b_X11_findLeast_195 ls st M → J 195 ls st M) ∧ (∀ ls st M, wpl J Q b_X11_findLeast_218 ls st M → J 218 ls st M) ∧ (∀ ls st M, wpl J Q b_X11_findLeast_246 ls st M → J 246 ls st M) ∧ (∀ ls st M, wpl J Q b_X11_findLeast_266 ls st M → J 266 ls st M) ∧ (∀ ls st M, wpl J Q b_X11_findLeast_309 ls st M → J 309 ls st M) ∧ (∀ ls st M, wpl J Q b_X11_findLeast_313 ls st M → J 313 ls st M) ∧ (∀ ls st M, wpl J Q b_X11_findLeast_314 ls st M → J 314 ls st M) ∧ (∀ ls st M, wpl J Q b_X11_findLeast_323 ls st M → J 323 ls st M) ∧ (∀ ls st M, wpl J Q b_X11_findLeast_335 ls st M → J 335 ls st M) ∧ (∀ ls st M, wpl J Q b_X11_findLeast_341 ls st M → J 341 ls st M) ∧ (∀ ls st M, wpl J Q b_X11_findLeast_344 ls st M → J 344 ls st M) ∧ (∀ ls st M, wpl J Q b_X11_findLeast_372 ls st M → J 372 ls st M) ∧ (∀ ls st M, wpl J Q b_X11_findLeast_378 ls st M → J 378 ls st M) ∧ (∀ ls st M, wpl J Q b_X11_findLeast_391 ls st M → J 391 ls st M) ∧ (∀ ls st M, wpl J Q b_X11_findLeast_446 ls st M → J 446 ls st M) ∧ (∀ ls st M, wpl J Q b_X11_findLeast_463 ls st M → J 463 ls st M) ∧ (∀ ls st M, wpl J Q b_X11_findLeast_469 ls st M → J 469 ls st M)
theorem R_X11_findLeast_0 {J : JT} {Q : QT} (R : R_X11_findLeast J Q) {ls : Ls} {st : St} {M : Mem} (h : wpl J Q b_X11_findLeast_0 ls st M) : J 0 ls st M := R.1 ls st M h
theorem R_X11_findLeast_30 {J : JT} {Q : QT} (R : R_X11_findLeast J Q) {ls : Ls} {st : St} {M : Mem} (h : wpl J Q b_X11_findLeast_30 ls st M) : J 30 ls st M := R.2.1 ls st M h
theorem R_X11_findLeast_79 {J : JT} {Q : QT} (R : R_X11_findLeast J Q) {ls : Ls} {st : St} {M : Mem} (h : wpl J Q b_X11_findLeast_79 ls st M) : J 79 ls st M := R.2.2.1 ls st M h
theorem R_X11_findLeast_90 {J : JT} {Q : QT} (R : R_X11_findLeast J Q) {ls : Ls} {st : St} {M : Mem} (h : wpl J Q b_X11_findLeast_90 ls st M) : J 90 ls st M := R.2.2.2.1 ls st M h
theorem R_X11_findLeast_96 {J : JT} {Q : QT} (R : R_X11_findLeast J Q) {ls : Ls} {st : St} {M : Mem} (h : wpl J Q b_X11_findLeast_96 ls st M) : J 96 ls st M := R.2.2.2.2.1 ls st M h
theorem R_X11_findLeast_99 {J : JT} {Q : QT} (R : R_X11_findLeast J Q) {ls : Ls} {st : St} {M : Mem} (h : wpl J Q b_X11_findLeast_99 ls st M) : J 99 ls st M := R.2.2.2.2.2.1 ls st M h
theorem R_X11_findLeast_118 {J : JT} {Q : QT} (R : R_X11_findLeast J Q) {ls : Ls} {st : St} {M : Mem} (h : wpl J Q b_X11_findLeast_118 ls st M) : J 118 ls st M := R.2.2.2.2.2.2.1 ls st M h
theorem R_X11_findLeast_160 {J : JT} {Q : QT} (R : R_X11_findLeast J Q) {ls : Ls} {st : St} {M : Mem} (h : wpl J Q b_X11_findLeast_160 ls st M) : J 160 ls st M := R.2.2.2.2.2.2.2.1 ls st M h
theorem R_X11_findLeast_161 {J : JT} {Q : QT} (R : R_X11_findLeast J Q) {ls : Ls} {st : St} {M : Mem} (h : wpl J Q b_X11_findLeast_161 ls st M) : J 161 ls st M := R.2.2.2.2.2.2.2.2.1 ls st M h
theorem R_X11_findLeast_169 {J : JT} {Q : QT} (R : R_X11_findLeast J Q) {ls : Ls} {st : St} {M : Mem} (h : wpl J Q b_X11_findLeast_169 ls st M) : J 169 ls st M := R.2.2.2.2.2.2.2.2.2.1 ls st M h
theorem R_X11_findLeast_184 {J : JT} {Q : QT} (R : R_X11_findLeast J Q) {ls : Ls} {st : St} {M : Mem} (h : wpl J Q b_X11_findLeast_184 ls st M) : J 184 ls st M := R.2.2.2.2.2.2.2.2.2.2.1 ls st M h
theorem R_X11_findLeast_185 {J : JT} {Q : QT} (R : R_X11_findLeast J Q) {ls : Ls} {st : St} {M : Mem} (h : wpl J Q b_X11_findLeast_185 ls st M) : J 185 ls st M := R.2.2.2.2.2.2.2.2.2.2.2.1 ls st M h
theorem R_X11_findLeast_192 {J : JT} {Q : QT} (R : R_X11_findLeast J Q) {ls : Ls} {st : St} {M : Mem} (h : wpl J Q b_X11_findLeast_192 ls st M) : J 192 ls st M := R.2.2.2.2.2.2.2.2.2.2.2.2.1 ls st M h
theorem R_X11_findLeast_195 {J : JT} {Q : QT} (R : R_X11_findLeast J Q) {ls : Ls} {st : St} {M : Mem} (h : wpl J Q b_X11_findLeast_195 ls st M) : J 195 ls st M := R.2.2.2.2.2.2.2.2.2.2.2.2.2.1 ls st M h
theorem R_X11_findLeast_218 {J : JT} {Q : QT} (R : R_X11_findLeast J Q) {ls : Ls} {st : St} {M : Mem} (h : wpl J Q b_X11_findLeast_218 ls st M) : J 218 ls st M := R.2.2.2.2.2.2.2.2.2.2.2.2.2.2.1 ls st M h
theorem R_X11_findLeast_246 {J : JT} {Q : QT} (R : R_X11_findLeast J Q) {ls : Ls} {st : St} {M : Mem} (h : wpl J Q b_X11_findLeast_246 ls st M) : J 246 ls st M := R.2.2.2.2.2.2.2.2.2.2.2.2.2.2.2.1 ls st M h
theorem R_X11_findLeast_266 {J : JT} {Q : QT} (R : R_X11_findLeast J Q) {ls : Ls} {st : St} {M : Mem} (h : wpl J Q b_X11_findLeast_266 ls st M) : J 266 ls st M := R.2.2.2.2.2.2.2.2.2.2.2.2.2.2.2.2.1 ls st M h
theorem R_X11_findLeast_309 {J : JT} {Q : QT} (R : R_X11_findLeast J Q) {ls : Ls} {st : St} {M : Mem} (h : wpl J Q b_X11_findLeast_309 ls st M) : J 309 ls st M := R.2.2.2.2.2.2.2.2.2.2.2.2.2.2.2.2.2.1 ls st M h
theorem R_X11_findLeast_313 {J : JT} {Q : QT} (R : R_X11_findLeast J Q) {ls : Ls} {st : St} {M : Mem} (h : wpl J Q b_X11_findLeast_313 ls st M) : J 313 ls st M := R.2.2.2.2.2.2.2.2.2.2.2.2.2.2.2.2.2.2.1 ls st M h
theorem R_X11_findLeast_314 {J : JT} {Q : QT} (R : R_X11_findLeast J Q) {ls : Ls} {st : St} {M : Mem} (h : wpl J Q b_X11_findLeast_314 ls st M) : J 314 ls st M := R.2.2.2.2.2.2.2.2.2.2.2.2.2.2.2.2.2.2.2.1 ls st M h
theorem R_X11_findLeast_323 {J : JT} {Q : QT} (R : R_X11_findLeast J Q) {ls : Ls} {st : St} {M : Mem} (h : wpl J Q b_X11_findLeast_323 ls st M) : J 323 ls st M := R.2.2.2.2.2.2.2.2.2.2.2.2.2.2.2.2.2.2.2.2.1 ls st M h
theorem R_X11_findLeast_335 {J : JT} {Q : QT} (R : R_X11_findLeast J Q) {ls : Ls} {st : St} {M : Mem} (h : wpl J Q b_X11_findLeast_335 ls st M) : J 335 ls st M := R.2.2.2.2.2.2.2.2.2.2.2.2.2.2.2.2.2.2.2.2.2.1 ls st M h
theorem R_X11_findLeast_341 {J : JT} {Q : QT} (R : R_X11_findLeast J Q) {ls : Ls} {st : St} {M : Mem} (h : wpl J Q b_X11_findLeast_341 ls st M) : J 341 ls st M := R.2.2.2.2.2.2.2.2.2.2.2.2.2.2.2.2.2.2.2.2.2.2.1 ls st M h
theorem R_X11_findLeast_344 {J : JT} {Q : QT} (R : R_X11_findLeast J Q) {ls : Ls} {st : St} {M : Mem} (h : wpl J Q b_X11_findLeast_344 ls st M) : J 344 ls st M := R.2.2.2.2.2.2.2.2.2.2.2.2.2.2.2.2.2.2.2.2.2.2.2.1 ls st M h
theorem R_X11_findLeast_372 {J : JT} {Q : QT} (R : R_X11_findLeast J Q) {ls : Ls} {st : St} {M : Mem} (h : wpl J Q b_X11_findLeast_372 ls st M) : J 372 ls st M := R.2.2.2.2.2.2.2.2.2.2.2.2.2.2.2.2.2.2.2.2.2.2.2.2.1 ls st M h
theorem R_X11_findLeast_378 {J : JT} {Q : QT} (R : R_X11_findLeast J Q) {ls : Ls} {st : St} {M : Mem} (h : wpl J Q b_X11_findLeast_378 ls st M) : J 378 ls st M := R.2.2.2.2.2.2.2.2.2.2.2.2.2.2.2.2.2.2.2.2.2.2.2.2.2.1 ls st M h
theorem R_X11_findLeast_391 {J : JT} {Q : QT} (R : R_X11_findLeast J Q) {ls : Ls} {st : St} {M : Mem} (h : wpl J Q b_X11_findLeast_391 ls st M) : J 391 ls st M := R.2.2.2.2.2.2.2.2.2.2.2.2.2.2.2.2.2.2.2.2.2.2.2.2.2.2.1 ls st M h
theorem R_X11_findLeast_446 {J : JT} {Q : QT} (R : R_X11_findLeast J Q) {ls : Ls} {st : St} {M : Mem} (h : wpl J Q b_X11_findLeast_446 ls st M) : J 446 ls st M := R.2.2.2.2.2.2.2.2.2.2.2.2.2.2.2.2.2.2.2.2.2.2.2.2.2.2.2.1 ls st M h
theorem R_X11_findLeast_463 {J : JT} {Q : QT} (R : R_X11_findLeast J Q) {ls : Ls} {st : St} {M : Mem} (h : wpl J Q b_X11_findLeast_463 ls st M) : J 463 ls st M := R.2.2.2.2.2.2.2.2.2.2.2.2.2.2.2.2.2.2.2.2.2.2.2.2.2.2.2.2.1 ls st M h
theorem R_X11_findLeast_469 {J : JT} {Q : QT} (R : R_X11_findLeast J Q) {ls : Ls} {st : St} {M : Mem} (h : wpl J Q b_X11_findLeast_469 ls st M) : J 469 ls st M := R.2.2.2.2.2.2.2.2.2.2.2.2.2.2.2.2.2.2.2.2.2.2.2.2.2.2.2.2.2 ls st M h
theorem sh331 : SH 331 = (3, 1024, 0, 0) := rfl
theorem sh332 : SH 332 = (3, 1024, 0, 0) := rfl
theorem sh333 : SH 333 = (1, 1024, 0, 0) := rfl
theorem sh334 : SH 334 = (1, 10, 0, 0) := rfl
def is1 (p : Prop) (x : Int) : Prop := (p ∧ x = 1) ∨ (¬ p ∧ x = 0)
theorem is1_01 {p : Prop} {x : Int} (h : is1 p x) : x = 0 ∨ x = 1 := by rcases h with h | h <;> omega
theorem is1_iff {p : Prop} {x : Int} (h : is1 p x) : ¬ x = 0 ↔ p := by
  rcases h with h | h
  · exact ⟨fun _ => h.1, fun _ => by omega⟩
  · exact ⟨fun z => absurd h.2 z, fun z => absurd z h.1⟩
theorem is1_cong {p q : Prop} {x : Int} (h : is1 p x) (e : p ↔ q) : is1 q x := by
  rcases h with h | h
  · exact Or.inl ⟨e.mp h.1, h.2⟩
  · exact Or.inr ⟨fun z => h.1 (e.mpr z), h.2⟩
theorem P_X11_findLeast {J : JT} {Q : QT} (R : R_X11_findLeast J Q) {as : List Vl} {M : Mem} (h : nf G_X11_findLeast as M Q) : (enL as).length ≤ 9 ∧ J 0 (padL 9 (enL as)) [] M := by
  unfold nf G_X11_findLeast at h
  split at h
  · rename_i k m
    obtain ⟨Ab, ⟨rfl, ⟨m0, m1⟩, b37, w35⟩, hmd, hml, hQ⟩ := h
    have ho := hmd.1
    obtain ⟨q1, q2⟩ := nM_le ho
    obtain ⟨n1, n2⟩ := nT_le ho
    obtain ⟨p1, p2⟩ := nP_le ho
    have hm : m.toNat < nM Ab := by omega
    have mm := hmd.2.2.2.2.2 m.toNat hm
    have ob := ho.2.2.2.2.2.2.2.2 m.toNat hm
    obtain ⟨b8, -⟩ := mo_bits ho hm
    refine ⟨Nat.le_of_ble_eq_true rfl, R_X11_findLeast_0 R (an o159 (an (ak_of sh225 m0 (by omega)) ?_))⟩
    rw [mo_row rfl]
    refine an (ak_of (sh_mo _ (by omega)) (by decide) (by decide)) ?_
    rw [show M (226 + m.toNat) (Int.toNat 1) = Ab 8 m.toNat from mm.2.1]
    refine an o159 ⟨Ab, ⟨rfl, b37.1, b37.2⟩, hmd, hml, fun M1 g1 g2 g4 => an o159 (an (ak_of sh298 m0 (by omega)) ?_)⟩
    rw [ct_row rfl]
    refine an (ak_of (sh_ct m.toNat (by omega)) (by decide) (by decide)) ?_
    rw [cr_row (k := m.toNat) (l := 0) (by omega) rfl]
    refine an (ak_of (sh_cr m.toNat (by omega) 0 (by decide)) (by decide) (by decide)) ?_
    have eag : M1 (300 + 4 * m.toNat + 0) (Int.toNat 1) = cnM Ab m.toNat 0 1 := by
      rw [w35] at g4
      exact g4 m.toNat 0 1 hm (by decide) (by decide)
    rw [eag]
    clear eag g2 g4
    generalize hag : cnM Ab m.toNat 0 1 = ag at hQ
    generalize hbt : Ab 8 m.toNat = bt' at b8
    have lsE : lsF Ab m.toNat ag = lsP (fun s => tf (CanP (cwF Ab bt') (ccF Ab m.toNat bt') (fwN Ab bt' (nT Ab)) (crN bt' (nP Ab)) s)) (fun s => wS (cwF Ab bt') s (fwN Ab bt' (nT Ab))) ag (2 ^ fwN Ab bt' (nT Ab)) := by unfold lsF; rw [hbt]
    have lpE : lpF Ab m.toNat ag = if lsF Ab m.toNat ag = -1 then -1 else wS (cwF Ab bt') (lsF Ab m.toNat ag).toNat (fwN Ab bt' (nT Ab)) := by unfold lpF; rw [hbt]
    have wok := cw_ok ho bt'
    have cok : ∀ c, 0 ≤ ccF Ab m.toNat bt' c ∧ ccF Ab m.toNat bt' c ≤ 6000 := fun c => cc_ok ho hm bt' c
    generalize hw : cwF Ab bt' = w at lsE lpE wok
    generalize hcp : ccF Ab m.toNat bt' = caps at lsE cok
    generalize hn : fwN Ab bt' (nT Ab) = n at lsE lpE wok
    have n10 : n ≤ 10 := by rw [← hn]; exact (fwN_le Ab bt' (nT Ab)).1
    have N24 := p10 n10
    have wb := fun s => wS_990 wok s
    -- the cells that stay
    have kp : ∀ M2 : Mem, (∀ u v, ¬ (331 ≤ u ∧ u ≤ 334) → ¬ (u = 159 ∧ (v = 43 ∨ v = 44)) → M2 u v = M1 u v) → MdP M2 Ab ∧ ∀ u v, (u < 292 ∨ 335 ≤ u) → ¬ (u = 159 ∧ (v = 36 ∨ v = 43 ∨ v = 44)) → M2 u v = M u v := fun M2 f2 => ⟨hmd.kept (fun u v a b => (f2 u v (by omega) (by omega)).trans (g1 u v (by omega) (by omega))), fun u v a b => (f2 u v (by omega) (by omega)).trans (g1 u v (by omega) (by omega))⟩
    have esh : shlI 1 (n : Int) = ((2 ^ n : Nat) : Int) := shl1 n (by omega)
    -- the least
    have last : ∀ (M2 : Mem), (∀ u v, ¬ (331 ≤ u ∧ u ≤ 334) → ¬ (u = 159 ∧ (v = 43 ∨ v = 44)) → M2 u v = M1 u v) → (∀ s, s < 2 ^ n → M2 333 s = wS w s n) → (∀ s, s < 2 ^ n → is1 (CanP w caps n (crN bt' (nP Ab)) s) (M2 331 s)) → ∀ (x5 : Int) (x6 x7 x8 : Option Vl), J 378 [some (vR 159), some (vI m), some (vI (n : Int)), some (vI bt'), some (vI ag), some (vI x5), x6, x7, x8] [] M2 := by
      intro M2 f2 hwg hcn x5 x6 x7 x8
      generalize hC : (fun s => tf (CanP w caps n (crN bt' (nP Ab)) s)) = C at lsE
      have hCi : ∀ s, C s = true ↔ CanP w caps n (crN bt' (nP Ab)) s := fun s => by rw [← hC]; exact tf_iff
      have key : ∀ i : Nat, i ≤ 2 ^ n → ∀ (x : Int) (N : Mem), x = (i : Int) → (∀ u v, ¬ (u = 159 ∧ (v = 43 ∨ v = 44)) → N u v = M2 u v) → N 159 44 = lsP C (fun s => wS w s n) ag i → (N 159 43 = if lsP C (fun s => wS w s n) ag i = -1 then -1 else wS w (lsP C (fun s => wS w s n) ag i).toNat n) → J 391 [some (vR 159), some (vI m), some (vI (n : Int)), some (vI bt'), some (vI ag), some (vI x), x6, x7, x8] [] N := by
        refine dn ?_ ?_
        · intro x N hx fN h44 h43
          have kk := kp N (fun u v a b => (fN u v b).trans (f2 u v a b))
          refine R_X11_findLeast_391 R (bt (show shlI 1 (n : Int) ≤ x by rw [esh]; omega) (R_X11_findLeast_469 R (hQ N kk.2 ?_ ?_)))
          · rw [lpE, lsE]; exact h43
          · rw [lsE]; exact h44
        · intro i hi ih x N hx fN h44 h43
          have hxn : x.toNat = i := by omega
          have e331 : N (159 + 172) x.toNat = M2 331 i := by rw [hxn]; exact fN _ _ (by omega)
          have e333 : N (159 + 174) x.toNat = wS w i n := by rw [hxn]; exact (fN _ _ (by omega)).trans (hwg i hi)
          have cn := is1_iff (hcn i hi)
          have wi := wb i
          have lb := lsP_bd C (fun s => wS w s n) ag i
          generalize hlz : lsP C (fun s => wS w s n) ag i = lz at h44 h43 lb
          have wl := wb lz.toNat
          have skip : ¬ (C i = true ∧ ag < wS w i n ∧ (lz = -1 ∨ wS w i n < wS w lz.toNat n)) → J 463 [some (vR 159), some (vI m), some (vI (n : Int)), some (vI bt'), some (vI ag), some (vI x), x6, x7, x8] [] N := by
            intro hc
            have es : lsP C (fun s => wS w s n) ag (i + 1) = lz := by
              rw [lsP, hlz, if_neg hc]
            exact R_X11_findLeast_463 R (ih _ N (wn hx (by omega)) fN (by rw [es]; exact h44) (by rw [es]; exact h43))
          have take : C i = true ∧ ag < wS w i n ∧ (lz = -1 ∨ wS w i n < wS w lz.toNat n) → J 446 [some (vR 159), some (vI m), some (vI (n : Int)), some (vI bt'), some (vI ag), some (vI x), x6, x7, x8] [] N := by
            intro hc
            have es : lsP C (fun s => wS w s n) ag (i + 1) = (i : Int) := by
              rw [lsP, hlz, if_pos hc]
            refine R_X11_findLeast_446 R (an o159 (an (ak_of sh333 (by omega) (by omega)) (an o159 (an o159 (R_X11_findLeast_463 R (ih _ _ (wn hx (by omega)) (fun u v hu => ?_) ?_ ?_))))))
            · rw [up_ne (by omega), up_ne (by omega)]; exact fN u v hu
            · rw [es, up_eq]; exact hx
            · rw [es, if_neg (by omega), Int.toNat_natCast, up_ne (by omega), up_eq]; exact e333
          refine R_X11_findLeast_391 R (bf (show ¬ shlI 1 (n : Int) ≤ x by rw [esh]; omega) (an o159 (an (ak_of sh331 (by omega) (by omega)) ?_)))
          rw [e331]
          refine br (fun g => skip (fun z => (cn.mpr ((hCi i).mp z.1)) g)) (fun g => an o159 (an (ak_of sh333 (by omega) (by omega)) ?_))
          have hCt : C i = true := (hCi i).mpr (cn.mp g)
          rw [e333]
          refine br (fun g2 => skip (fun z => ?_)) (fun g2 => an o159 ?_)
          · have g2 : wS w i n ≤ ag := g2
            omega
          · have g2 : ¬ wS w i n ≤ ag := g2
            refine br (fun g3 => take ⟨hCt, by omega, Or.inl ?_⟩) (fun g3 => an o159 (an (ak_of sh333 (by omega) (by omega)) (an o159 ?_)))
            · have g3 : N 159 43 = -1 := g3
              rw [h43] at g3
              by_cases q : lz = -1
              · exact q
              · rw [if_neg q] at g3; omega
            · have g3 : ¬ N 159 43 = -1 := g3
              have lz1 : ¬ lz = -1 := fun q => g3 (by rw [h43, if_pos q])
              rw [if_neg lz1] at h43
              rw [e333]
              refine br (fun g4 => take ⟨hCt, by omega, Or.inr ?_⟩) (fun g4 => skip (fun z => ?_))
              · have g4 : wS w i n < N 159 43 := g4
                omega
              · have g4 : ¬ wS w i n < N 159 43 := g4
                omega
      refine R_X11_findLeast_378 R (an o159 (an o159 (key 0 (Nat.zero_le _) _ _ rfl (fun u v hu => ?_) ?_ ?_)))
      · rw [up_ne (by omega), up_ne (by omega)]
      · rw [up_eq]; rfl
      · rw [up_ne (by omega), up_eq]; rfl
    -- the persons
    have pers : ∀ i, i ≤ nP Ab → ∀ (x : Int) (M2 : Mem) (x6 x7 x8 : Option Vl), x = (i : Int) → (∀ u v, ¬ (331 ≤ u ∧ u ≤ 334) → ¬ (u = 159 ∧ (v = 43 ∨ v = 44)) → M2 u v = M1 u v) → (∀ s, s < 2 ^ n → M2 333 s = wS w s n) → (∀ s, s < 2 ^ n → is1 (CanP w caps n (crN bt' i) s) (M2 331 s)) → J 195 [some (vR 159), some (vI m), some (vI (n : Int)), some (vI bt'), some (vI ag), some (vI x), x6, x7, x8] [] M2 := by
      refine dn ?_ ?_
      · intro x M2 x6 x7 x8 hx f2 hwg hcn
        have k1 := (kp M2 f2).1
        exact R_X11_findLeast_195 R (an o159 (an (ak_of sh163 (by decide) (by decide)) (bt (show M2 163 0 ≤ x by rw [k1.2.1.1]; omega) (last M2 f2 hwg hcn x x6 x7 x8))))
      · intro i hi ih x M2 x6 x7 x8 hx f2 hwg hcn
        have hxn : x.toNat = i := by omega
        have k1 := (kp M2 f2).1
        have eb := bit_and (x := bt') (i := x) b8.1 b8.2 (by omega) (by omega)
        have eb2 : bitB bt' x = bitB bt' (i : Int) := by rw [hx]
        rw [eb2] at eb
        refine R_X11_findLeast_195 R (an o159 (an (ak_of sh163 (by decide) (by decide)) (bf (show ¬ M2 163 0 ≤ x by rw [k1.2.1.1]; omega) (br (fun g => R_X11_findLeast_218 R (an o159 (an (ak_of sh175 (by omega) (by omega)) ?_))) (fun g => R_X11_findLeast_372 R (ih _ M2 _ _ _ (wn hx (by omega)) f2 hwg ?_))))))
        · have g : ¬ andI (shrI bt' x) 1 = 0 := g
          rw [eb] at g
          have hbit : bitB bt' (i : Int) = true := by
            cases h9 : bitB bt' (i : Int) with
            | true => rfl
            | false => rw [h9] at g; exact absurd rfl g
          obtain ⟨ca1, ca2⟩ := crA_at hi hbit
          have crn : crN bt' (i + 1) = crN bt' i + 1 := by rw [crN, if_pos hbit]
          have ecap : caps (crN bt' i) = 60 * Ab 5 i / (Ab 7 m.toNat + 1) := by
            rw [← hcp]
            unfold ccF
            rw [if_pos ca1, ca2]
          have pb := (ho.2.2.2.2.2.1 i hi).2
          have cb := cok (crN bt' i)
          rw [pe_row hxn]
          refine an (ak_of (sh_pe i (by omega)) (by decide) (by decide)) (an o159 (an (ak_of sh225 m0 (by omega)) ?_))
          rw [mo_row rfl, show M2 (176 + i) (Int.toNat 1) = Ab 5 i from (k1.2.2.1 i hi).2]
          refine an (ak_of (sh_mo _ (by omega)) (by decide) (by decide)) ?_
          rw [show M2 (226 + m.toNat) (Int.toNat 0) = Ab 7 m.toNat from (k1.2.2.2.2.2 m.toNat hm).1]
          have e60 : f_mul 60 (Ab 5 i) = 60 * Ab 5 i := w1 (by omega) (by omega) rfl
          have e7 : f_add (Ab 7 m.toNat) 1 = Ab 7 m.toNat + 1 := w1 (by omega) (by omega) rfl
          show f_add (Ab 7 m.toNat) 1 ≠ 0 ∧ J 246 [some (vR 159), some (vI m), some (vI (n : Int)), some (vI bt'), some (vI ag), some (vI x), some (vI (w32 ((f_mul 60 (Ab 5 i)).tdiv (f_add (Ab 7 m.toNat) 1)))), some (vI 0), x8] [] M2
          rw [e60, e7, Int.tdiv_eq_ediv_of_nonneg (by omega), ← ecap, w1 (x := caps (crN bt' i)) (y := caps (crN bt' i)) (by omega) (by omega) rfl]
          clear e60 e7
          refine ⟨by omega, ?_⟩
          generalize hca : caps (crN bt' i) = cap at cb ecap
          have canS : ∀ s, CanP w caps n (crN bt' (i + 1)) s ↔ ∃ y, sbs y s ∧ wS w y n ≤ cap ∧ CanP w caps n (crN bt' i) (s ^^^ y) := fun s => by
            rw [crn, CanP, hca]
          generalize crN bt' i = jc at hcn canS
          -- copied back
          have back : ∀ (N : Mem), (∀ u v, u ≠ 332 → N u v = M2 u v) → (∀ s, s < 2 ^ n → is1 (CanP w caps n (crN bt' (i + 1)) s) (N 332 s)) → ∀ c : Nat, c ≤ 2 ^ n → ∀ (y : Int) (N2 : Mem) (x8 : Option Vl), y = (c : Int) → (∀ u v, u ≠ 331 → N2 u v = N u v) → (∀ s, s < c → N2 331 s = N 332 s) → J 344 [some (vR 159), some (vI m), some (vI (n : Int)), some (vI bt'), some (vI ag), some (vI x), some (vI cap), some (vI y), x8] [] N2 := by
            intro N fN hN
            refine dn ?_ ?_
            · intro y N2 x8 hy f3 hc
              refine R_X11_findLeast_344 R (bt (show shlI 1 (n : Int) ≤ y by rw [esh]; omega) (R_X11_findLeast_372 R (ih _ N2 _ _ _ (wn hx (by omega)) (fun u v a b => ?_) (fun s hs => ?_) (fun s hs => ?_))))
              · rw [f3 u v (by omega), fN u v (by omega)]; exact f2 u v a b
              · rw [f3 _ _ (by omega), fN _ _ (by omega)]; exact hwg s hs
              · rw [hc s hs]; exact hN s hs
            · intro c hc' ihc y N2 x8 hy f3 hc
              have hyn : y.toNat = c := by omega
              have e332 : N2 (159 + 173) y.toNat = N 332 c := by rw [hyn]; exact f3 _ _ (by omega)
              refine R_X11_findLeast_344 R (bf (show ¬ shlI 1 (n : Int) ≤ y by rw [esh]; omega) (an o159 (an o159 (an (ak_of sh332 (by omega) (by omega)) (an (ak_of sh331 (by omega) (by omega)) ?_)))))
              rw [e332]
              refine an (is1_01 (hN c hc')) (ihc _ _ _ (wn hy (by omega)) (fun u v hu => ?_) (fun s hs => ?_))
              · rw [up_ne (by omega)]; exact f3 u v hu
              · rw [hyn]
                by_cases q : s = c
                · subst q; exact up_eq
                · rw [up_ne (by omega)]; exact hc s (by omega)
          have sets : ∀ c : Nat, c ≤ 2 ^ n → ∀ (y : Int) (N : Mem) (x8 : Option Vl), y = (c : Int) → (∀ u v, u ≠ 332 → N u v = M2 u v) → (∀ s, s < c → is1 (CanP w caps n (crN bt' (i + 1)) s) (N 332 s)) → J 246 [some (vR 159), some (vI m), some (vI (n : Int)), some (vI bt'), some (vI ag), some (vI x), some (vI cap), some (vI y), x8] [] N := by
            refine dn ?_ ?_
            · intro y N x8 hy fN hN
              exact R_X11_findLeast_246 R (bt (show shlI 1 (n : Int) ≤ y by rw [esh]; omega) (R_X11_findLeast_341 R (back N fN hN 0 (Nat.zero_le _) _ N _ rfl (fun _ _ _ => rfl) (fun s hs => absurd hs (Nat.not_lt_zero s)))))
            · intro c hc ihc y N x8 hy fN hN
              have hyn : y.toNat = c := by omega
              have inner : ∀ K a : Nat, a ≤ K → sbs a c → ∀ (z : Int) (N : Mem), z = (a : Int) → (∀ u v, u ≠ 332 → N u v = M2 u v) → (∀ s, s < c → is1 (CanP w caps n (crN bt' (i + 1)) s) (N 332 s)) → is1 (∃ y, sbs y c ∧ a < y ∧ wS w y n ≤ cap ∧ CanP w caps n jc (c ^^^ y)) (N 332 c) → J 266 [some (vR 159), some (vI m), some (vI (n : Int)), some (vI bt'), some (vI ag), some (vI x), some (vI cap), some (vI y), some (vI z)] [] N := by
                intro K
                induction K with
                | zero =>
                  intro a ha hs z N hz fN hN hI
                  have a0 : a = 0 := by omega
                  subst a0
                  have ac : 0 < 2 ^ n := Nat.pow_pos (by decide)
                  have e332 : N (159 + 173) y.toNat = N 332 c := by rw [hyn]
                  have e333 : N (159 + 174) z.toNat = wS w 0 n := by rw [hz]; exact (fN _ _ (by omega)).trans (hwg 0 ac)
                  have enx : andI y (xorI z (-1)) = ((c ^^^ 0 : Nat) : Int) := by rw [hy, hz]; exact not_and (by omega) hs
                  rw [Nat.xor_zero] at enx
                  have e331 : N (159 + 172) (andI y (xorI z (-1))).toNat = M2 331 c := by rw [enx, Int.toNat_natCast]; exact fN _ _ (by omega)
                  have ak1 : AK 3 331 (andI y (xorI z (-1))) := by rw [enx]; exact ak_of sh331 (by omega) (by omega)
                  clear enx
                  have cn := is1_iff (hcn c hc)
                  have fin : ∀ v : Int, is1 (∃ y, sbs y c ∧ wS w y n ≤ cap ∧ CanP w caps n jc (c ^^^ y)) v → J 314 [some (vR 159), some (vI m), some (vI (n : Int)), some (vI bt'), some (vI ag), some (vI x), some (vI cap), some (vI y), some (vI z)] [vI v, vI y, vR 332] N := by
                    intro v hv
                    refine R_X11_findLeast_314 R (an (ak_of sh332 (by omega) (by omega)) (an (is1_01 hv) (bf (show ¬ ¬ z = 0 from fun q => q (by omega)) (R_X11_findLeast_335 R (ihc _ _ _ (wn hy (by omega)) (fun u v' hu => ?_) (fun s hs' => ?_))))))
                    · rw [up_ne (by omega)]; exact fN u v' hu
                    · rw [hyn]
                      by_cases q : s = c
                      · subst q; rw [up_eq]; exact is1_cong hv (canS s).symm
                      · rw [up_ne (by omega)]; exact hN s (by omega)
                  have yes : (∃ y, sbs y c ∧ wS w y n ≤ cap ∧ CanP w caps n jc (c ^^^ y)) → J 309 [some (vR 159), some (vI m), some (vI (n : Int)), some (vI bt'), some (vI ag), some (vI x), some (vI cap), some (vI y), some (vI z)] [vI y, vR 332] N := fun h => R_X11_findLeast_309 R (fin 1 (Or.inl ⟨h, rfl⟩))
                  have no : ¬ (∃ y, sbs y c ∧ wS w y n ≤ cap ∧ CanP w caps n jc (c ^^^ y)) → J 313 [some (vR 159), some (vI m), some (vI (n : Int)), some (vI bt'), some (vI ag), some (vI x), some (vI cap), some (vI y), some (vI z)] [vI y, vR 332] N := fun h => R_X11_findLeast_313 R (fin 0 (Or.inr ⟨h, rfl⟩))
                  have iI := is1_iff hI
                  have z0 : ∀ u, sbs u c → ¬ 0 < u → u = 0 := fun u _ h => by omega
                  refine R_X11_findLeast_266 R (an o159 (an o159 (an (ak_of sh332 (by omega) (by omega)) ?_)))
                  rw [e332]
                  refine br (fun g => yes ?_) (fun g => an o159 (an (ak_of sh333 (by omega) (by omega)) ?_))
                  · obtain ⟨u, u1, u2, u3, u4⟩ := iI.mp g
                    exact ⟨u, u1, u3, u4⟩
                  · have g : N 332 c = 0 := Classical.not_not.mp g
                    have gN : ¬ ∃ y, sbs y c ∧ 0 < y ∧ wS w y n ≤ cap ∧ CanP w caps n jc (c ^^^ y) := fun h => iI.mpr h g
                    rw [e333]
                    refine br (fun g2 => no (fun h => ?_)) (fun g2 => an o159 (an ak1 ?_))
                    · have g2 : cap < wS w 0 n := g2
                      obtain ⟨u, u1, u3, u4⟩ := h
                      by_cases q : 0 < u
                      · exact gN ⟨u, u1, q, u3, u4⟩
                      · have : u = 0 := by omega
                        subst this; omega
                    · have g2 : ¬ cap < wS w 0 n := g2
                      rw [e331]
                      refine br (fun g3 => no (fun h => ?_)) (fun g3 => yes ⟨0, hs, by omega, ?_⟩)
                      · obtain ⟨u, u1, u3, u4⟩ := h
                        by_cases q : 0 < u
                        · exact gN ⟨u, u1, q, u3, u4⟩
                        · have : u = 0 := by omega
                          subst this
                          rw [Nat.xor_zero] at u4
                          exact (cn.mpr u4) g3
                      · rw [Nat.xor_zero]; exact cn.mp g3
                | succ K ihK =>
                  intro a ha hs z N hz fN hN hI
                  by_cases a0 : a = 0
                  · exact ihK a (by omega) hs z N hz fN hN hI
                  · have ale : a ≤ c := by have := and_sbs hs; have h2 : a &&& c ≤ c := Nat.and_le_right; omega
                    have e332 : N (159 + 173) y.toNat = N 332 c := by rw [hyn]
                    have e333 : N (159 + 174) z.toNat = wS w a n := by rw [hz]; exact (fN _ _ (by omega)).trans (hwg a (by omega))
                    have enx : andI y (xorI z (-1)) = ((c ^^^ a : Nat) : Int) := by rw [hy, hz]; exact not_and (by omega) hs
                    have cxl : c ^^^ a < 2 ^ n := xor_lt hc (by omega)
                    have e331 : N (159 + 172) (andI y (xorI z (-1))).toNat = M2 331 (c ^^^ a) := by rw [enx, Int.toNat_natCast]; exact fN _ _ (by omega)
                    have ak1 : AK 3 331 (andI y (xorI z (-1))) := by rw [enx]; exact ak_of sh331 (by omega) (by omega)
                    have epm : andI (f_sub z 1) y = (((a - 1) &&& c : Nat) : Int) := by rw [hy, hz]; exact and_pm (by omega) (by omega)
                    clear enx
                    have al2 : (a - 1) &&& c ≤ a - 1 := Nat.and_le_left
                    have cn := is1_iff (hcn (c ^^^ a) cxl)
                    have fin : ∀ v : Int, is1 (∃ y, sbs y c ∧ a ≤ y ∧ wS w y n ≤ cap ∧ CanP w caps n jc (c ^^^ y)) v → J 314 [some (vR 159), some (vI m), some (vI (n : Int)), some (vI bt'), some (vI ag), some (vI x), some (vI cap), some (vI y), some (vI z)] [vI v, vI y, vR 332] N := by
                      intro v hv
                      have zn : ¬ z = 0 := by clear epm; omega
                      refine R_X11_findLeast_314 R (an (ak_of sh332 (by omega) (by omega)) (an (is1_01 hv) (bt zn (R_X11_findLeast_323 R (ihK ((a - 1) &&& c) (by omega) (sbs_and _ _) _ _ epm (fun u v' hu => ?_) (fun s hs' => ?_) ?_)))))
                      · rw [up_ne (by omega)]; exact fN u v' hu
                      · rw [hyn, up_ne (by omega)]; exact hN s hs'
                      · rw [hyn, up_eq]
                        refine is1_cong hv ⟨fun h => ?_, fun h => ?_⟩
                        · obtain ⟨u, u1, u2, u3⟩ := h
                          exact ⟨u, u1, by omega, u3⟩
                        · obtain ⟨u, u1, u2, u3⟩ := h
                          refine ⟨u, u1, ?_, u3⟩
                          by_cases q : u < a
                          · have := sub_next n hc hs u1 q
                            omega
                          · omega
                    have yes : (∃ y, sbs y c ∧ a ≤ y ∧ wS w y n ≤ cap ∧ CanP w caps n jc (c ^^^ y)) → J 309 [some (vR 159), some (vI m), some (vI (n : Int)), some (vI bt'), some (vI ag), some (vI x), some (vI cap), some (vI y), some (vI z)] [vI y, vR 332] N := fun h => R_X11_findLeast_309 R (fin 1 (Or.inl ⟨h, rfl⟩))
                    have no : ¬ (∃ y, sbs y c ∧ a ≤ y ∧ wS w y n ≤ cap ∧ CanP w caps n jc (c ^^^ y)) → J 313 [some (vR 159), some (vI m), some (vI (n : Int)), some (vI bt'), some (vI ag), some (vI x), some (vI cap), some (vI y), some (vI z)] [vI y, vR 332] N := fun h => R_X11_findLeast_313 R (fin 0 (Or.inr ⟨h, rfl⟩))
                    have iI := is1_iff hI
                    clear epm
                    refine R_X11_findLeast_266 R (an o159 (an o159 (an (ak_of sh332 (by omega) (by omega)) ?_)))
                    rw [e332]
                    refine br (fun g => yes ?_) (fun g => an o159 (an (ak_of sh333 (by omega) (by omega)) ?_))
                    · obtain ⟨u, u1, u2, u3, u4⟩ := iI.mp g
                      exact ⟨u, u1, by omega, u3, u4⟩
                    · have g : N 332 c = 0 := Classical.not_not.mp g
                      have gN : ¬ ∃ y, sbs y c ∧ a < y ∧ wS w y n ≤ cap ∧ CanP w caps n jc (c ^^^ y) := fun h => iI.mpr h g
                      rw [e333]
                      refine br (fun g2 => no (fun h => ?_)) (fun g2 => an o159 (an ak1 ?_))
                      · have g2 : cap < wS w a n := g2
                        obtain ⟨u, u1, u2, u3, u4⟩ := h
                        by_cases q : a < u
                        · exact gN ⟨u, u1, q, u3, u4⟩
                        · have : u = a := by omega
                          subst this; omega
                      · have g2 : ¬ cap < wS w a n := g2
                        rw [e331]
                        refine br (fun g3 => no (fun h => ?_)) (fun g3 => yes ⟨a, hs, Nat.le_refl _, by omega, cn.mp g3⟩)
                        obtain ⟨u, u1, u2, u3, u4⟩ := h
                        by_cases q : a < u
                        · exact gN ⟨u, u1, q, u3, u4⟩
                        · have : u = a := by omega
                          subst this
                          exact (cn.mpr u4) g3
              refine R_X11_findLeast_246 R (bf (show ¬ shlI 1 (n : Int) ≤ y by rw [esh]; omega) (an o159 (an (ak_of sh332 (by omega) (by omega)) (an (Or.inl rfl) (inner c c (Nat.le_refl _) (fun _ h => h) _ _ hy (fun u v hu => ?_) (fun s hs => ?_) (Or.inr ⟨fun h => ?_, ?_⟩))))))
              · rw [up_ne (by omega)]; exact fN u v hu
              · rw [hyn, up_ne (by omega)]; exact hN s hs
              · obtain ⟨u, u1, u2, -⟩ := h
                have := and_sbs u1
                have h2 : u &&& c ≤ c := Nat.and_le_right
                omega
              · rw [hyn]; exact up_eq
          exact sets 0 (Nat.zero_le _) _ M2 _ rfl (fun _ _ _ => rfl) (fun s hs => absurd hs (Nat.not_lt_zero s))
        · have g : andI (shrI bt' x) 1 = 0 := Classical.not_not.mp g
          rw [eb] at g
          have hbit : ¬ bitB bt' (i : Int) = true := fun z => by rw [z] at g; exact absurd g (by decide)
          rw [crN, if_neg hbit]; exact hcn
    -- the weights of the sets
    have at96 : ∀ (x5 : Int) (M2 : Mem) (x6 x7 x8 : Option Vl), (∀ u v, ¬ (331 ≤ u ∧ u ≤ 334) → ¬ (u = 159 ∧ (v = 43 ∨ v = 44)) → M2 u v = M1 u v) → (∀ i, i < n → M2 334 i = ((fwA Ab bt' (nT Ab) i : Nat) : Int)) → J 96 [some (vR 159), some (vI m), some (vI (n : Int)), some (vI bt'), some (vI ag), some (vI x5), x6, x7, x8] [] M2 := by
      intro x5 M2 x6 x7 x8 f2 hfw
      have k1 := (kp M2 f2).1
      have key : ∀ i : Nat, i ≤ 2 ^ n → ∀ (x : Int) (N : Mem) (x6 : Option Vl), x = (i : Int) → (∀ u v, u ≠ 331 → u ≠ 333 → N u v = M2 u v) → (∀ s, s < i → N 333 s = wS w s n) → (∀ s, s < i → is1 (CanP w caps n 0 s) (N 331 s)) → J 99 [some (vR 159), some (vI m), some (vI (n : Int)), some (vI bt'), some (vI ag), some (vI x), x6, x7, x8] [] N := by
        refine dn ?_ ?_
        · intro x N x6 hx fN hwg hcn
          exact R_X11_findLeast_99 R (bt (show shlI 1 (n : Int) ≤ x by rw [esh]; omega) (R_X11_findLeast_192 R (pers 0 (Nat.zero_le _) _ N _ _ _ rfl (fun u v a b => (fN u v (by omega) (by omega)).trans (f2 u v a b)) hwg hcn)))
        · intro i hi ih x N x6 hx fN hwg hcn
          have hxn : x.toNat = i := by omega
          have inner : ∀ j : Nat, j ≤ n → ∀ (y : Int) (N : Mem), y = (j : Int) → (∀ u v, u ≠ 331 → u ≠ 333 → N u v = M2 u v) → (∀ s, s < i → N 333 s = wS w s n) → (∀ s, s < i → is1 (CanP w caps n 0 s) (N 331 s)) → N 333 i = wS w i j → J 118 [some (vR 159), some (vI m), some (vI (n : Int)), some (vI bt'), some (vI ag), some (vI x), some (vI y), x7, x8] [] N := by
            refine dn ?_ ?_
            · intro y N hy fN hwg hcn hi'
              have fin : ∀ v : Int, is1 (i = 0) v → J 185 [some (vR 159), some (vI m), some (vI (n : Int)), some (vI bt'), some (vI ag), some (vI x), some (vI y), x7, x8] [vI v, vI x, vR 331] N := by
                intro v hv
                refine R_X11_findLeast_185 R (an (ak_of sh331 (by omega) (by omega)) (an (is1_01 hv) (ih _ _ _ (wn hx (by omega)) (fun u v' h1 h2 => ?_) (fun s hs => ?_) (fun s hs => ?_))))
                · rw [up_ne (by omega)]; exact fN u v' h1 h2
                · rw [up_ne (by omega)]
                  by_cases q : s = i
                  · subst q; exact hi'
                  · exact hwg s (by omega)
                · rw [hxn]
                  by_cases q : s = i
                  · subst q; rw [up_eq]; exact hv
                  · rw [up_ne (by omega)]; exact hcn s (by omega)
              refine R_X11_findLeast_118 R (bt (show (n : Int) ≤ y by omega) (R_X11_findLeast_169 R (an o159 (br (fun g => R_X11_findLeast_184 R (fin 0 (Or.inr ⟨?_, rfl⟩))) (fun g => fin 1 (Or.inl ⟨?_, rfl⟩))))))
              · have g : ¬ x = 0 := g
                omega
              · have g : x = 0 := Classical.not_not.mp g
                omega
            · intro j hj ihj y N hy fN hwg hcn hi'
              have hyn : y.toNat = j := by omega
              have bb := bit_and (x := x) (i := y) (by omega) (by omega) (by omega) (by omega)
              have bc : bitB x y = i.testBit j := by unfold bitB; rw [hxn, hyn]
              rw [bc] at bb
              have alt := fwA_lt Ab bt' (nT Ab) j (by rw [hn]; exact hj)
              have ewj : w j = Ab 1 (fwA Ab bt' (nT Ab) j) := by rw [← hw]; rfl
              have wj := wok.2 j hj
              have wjb : 0 ≤ wS w i j ∧ wS w i j ≤ (j : Int) * 99 := wS_bd (by decide) (fun k hk => by have := wok.2 k (by omega); omega) i
              have eN : N (159 + 174) x.toNat = wS w i j := by rw [hxn]; exact hi'
              have nx : ∀ v : Int, v = (if i.testBit j = true then w j else 0) → J 161 [some (vR 159), some (vI m), some (vI (n : Int)), some (vI bt'), some (vI ag), some (vI x), some (vI y), x7, x8] [vI v, vI (wS w i j), vI x, vR 333] N := by
                intro v hv
                have vb : 0 ≤ v ∧ v ≤ 99 := by rw [hv]; split <;> omega
                refine R_X11_findLeast_161 R (an (ak_of sh333 (by omega) (by omega)) (ihj _ _ (wn hy (by omega)) (fun u v' h1 h2 => ?_) (fun s hs => ?_) (fun s hs => ?_) ?_))
                · rw [up_ne (by omega)]; exact fN u v' h1 h2
                · rw [hxn, up_ne (by omega)]; exact hwg s hs
                · rw [up_ne (by omega)]; exact hcn s hs
                · rw [hxn, up_eq]
                  have e9 : wS w i (j + 1) = wS w i j + v := by
                    rw [hv]
                    rfl
                  rw [e9]
                  exact w1 (by omega) (by omega) rfl
              refine R_X11_findLeast_118 R (bf (show ¬ (n : Int) ≤ y by omega) (an o159 (an (ak_of sh333 (by omega) (by omega)) ?_)))
              rw [eN]
              refine br (fun g => R_X11_findLeast_160 R (nx 0 ?_)) (fun g => an o159 (an o159 (an (ak_of sh334 (by omega) (by omega)) ?_)))
              · have g : ¬ andI (shrI x y) 1 = 1 := g
                rw [bb] at g
                rw [if_neg (fun z => g (by rw [z]; rfl))]
              · have g : andI (shrI x y) 1 = 1 := Classical.not_not.mp g
                rw [bb] at g
                have hbit : i.testBit j = true := by
                  cases h9 : i.testBit j with
                  | true => rfl
                  | false => rw [h9] at g; exact absurd g (by decide)
                rw [show N (159 + 175) y.toNat = ((fwA Ab bt' (nT Ab) j : Nat) : Int) by rw [hyn]; exact (fN _ _ (by omega) (by omega)).trans (hfw j hj)]
                refine an (ak_of sh201 (by omega) (by omega)) ?_
                rw [th_row (Int.toNat_natCast _)]
                refine an (ak_of (sh_th _ (by omega)) (by decide) (by decide)) (nx _ ?_)
                rw [if_pos hbit, ewj]
                exact (fN _ _ (by omega) (by omega)).trans (k1.2.2.2.1 _ alt).2.1
          refine R_X11_findLeast_99 R (bf (show ¬ shlI 1 (n : Int) ≤ x by rw [esh]; omega) (an o159 (an (ak_of sh333 (by omega) (by omega)) (inner 0 (Nat.zero_le _) _ _ rfl (fun u v h1 h2 => ?_) (fun s hs => ?_) (fun s hs => ?_) ?_))))
          · rw [up_ne (by omega)]; exact fN u v h1 h2
          · rw [hxn, up_ne (by omega)]; exact hwg s hs
          · rw [up_ne (by omega)]; exact hcn s hs
          · rw [hxn, up_eq]; rfl
      exact R_X11_findLeast_96 R (key 0 (Nat.zero_le _) _ M2 _ rfl (fun _ _ _ _ => rfl) (fun s hs => absurd hs (Nat.not_lt_zero s)) (fun s hs => absurd hs (Nat.not_lt_zero s)))
    -- the things
    have things : ∀ t, t ≤ nT Ab → ∀ (x y : Int) (M2 : Mem) (x6 x7 x8 : Option Vl), x = (t : Int) → y = ((fwN Ab bt' t : Nat) : Int) → (∀ u v, u ≠ 334 → M2 u v = M1 u v) → (∀ i, i < fwN Ab bt' t → M2 334 i = ((fwA Ab bt' t i : Nat) : Int)) → J 30 [some (vR 159), some (vI m), some (vI y), some (vI bt'), some (vI ag), some (vI x), x6, x7, x8] [] M2 := by
      refine dn ?_ ?_
      · intro x y M2 x6 x7 x8 hx hy f2 hfw
        have k1 := (kp M2 (fun u v a b => f2 u v (by omega))).1
        rw [hn] at hy
        rw [hy]
        exact R_X11_findLeast_30 R (an o159 (an (ak_of sh163 (by decide) (by decide)) (bt (show M2 163 1 ≤ x by rw [k1.2.1.2.1]; omega) (at96 x M2 _ _ _ (fun u v a b => f2 u v (by omega)) (by rw [hn] at hfw; exact hfw)))))
      · intro t ht ih x y M2 x6 x7 x8 hx hy f2 hfw
        have hxn : x.toNat = t := by omega
        have k1 := (kp M2 (fun u v a b => f2 u v (by omega))).1
        obtain ⟨t0, t1', t2', t3⟩ := k1.2.2.2.1 t ht
        have ot := (ho.2.2.2.2.2.2.1 t ht).1
        have fle := fwN_le Ab bt' t
        refine R_X11_findLeast_30 R (an o159 (an (ak_of sh163 (by decide) (by decide)) (bf (show ¬ M2 163 1 ≤ x by rw [k1.2.1.2.1]; omega) (br (fun g => ?_) (fun g => an o159 (an (ak_of sh201 (by omega) (by omega)) ?_))))))
        · have g : 10 ≤ y := g
          have e10 : fwN Ab bt' t = 10 := by omega
          have en : n = 10 := by
            have := fwN_10 e10 (nT Ab - t)
            rw [show t + (nT Ab - t) = nT Ab by omega, hn] at this
            exact this
          rw [show y = (n : Int) by omega]
          refine at96 x M2 _ _ _ (fun u v a b => f2 u v (by omega)) (fun i hi => ?_)
          have st := fwA_st Ab bt' (t := t) (i := i) (by omega) (nT Ab - t)
          rw [show t + (nT Ab - t) = nT Ab by omega] at st
          rw [st]; exact hfw i (by omega)
        · have g : ¬ 10 ≤ y := g
          have skip : ¬ fwC2 Ab bt' t = true → J 90 [some (vR 159), some (vI m), some (vI y), some (vI bt'), some (vI ag), some (vI x), x6, x7, x8] [] M2 := by
            intro hc
            have e1 : fwN Ab bt' (t + 1) = fwN Ab bt' t := by rw [fwN, if_neg (fun z => hc z.2)]
            refine R_X11_findLeast_90 R (ih _ y M2 _ _ _ (wn hx (by omega)) (by rw [e1]; exact hy) f2 (fun i hi => ?_))
            rw [e1] at hi
            rw [fwA, if_neg (fun z => hc z.1.2)]; exact hfw i hi
          rw [th_row hxn]
          refine an (ak_of (sh_th t (by omega)) (by decide) (by decide)) ?_
          rw [show M2 (202 + t) (Int.toNat 2) = Ab 2 t from t2']
          refine br (fun g2 => skip (fun z => ?_)) (fun g2 => an o159 (an (ak_of sh201 (by omega) (by omega)) ?_))
          · have g2 : ¬ Ab 2 t = -1 := g2
            unfold fwC2 at z
            rw [decide_eq_false g2] at z
            exact absurd z (by simp)
          · have g2 : Ab 2 t = -1 := Classical.not_not.mp g2
            rw [th_row hxn]
            refine an (ak_of (sh_th t (by omega)) (by decide) (by decide)) ?_
            rw [show M2 (202 + t) (Int.toNat 0) = Ab 0 t from t0]
            have bb := bit_and (x := bt') (i := Ab 0 t) b8.1 b8.2 ot.1 (by omega)
            refine br (fun g3 => R_X11_findLeast_79 R (an o159 (an (ak_of sh334 (by omega) (by omega)) ?_))) (fun g3 => skip (fun z => ?_))
            · have g3 : ¬ andI (shrI bt' (Ab 0 t)) 1 = 0 := g3
              rw [bb] at g3
              have hbit : bitB bt' (Ab 0 t) = true := by
                cases h9 : bitB bt' (Ab 0 t) with
                | true => rfl
                | false => rw [h9] at g3; exact absurd rfl g3
              have hc : fwC2 Ab bt' t = true := by unfold fwC2; rw [hbit, decide_eq_true g2]; rfl
              have e1 : fwN Ab bt' (t + 1) = fwN Ab bt' t + 1 := by rw [fwN, if_pos ⟨by omega, hc⟩]
              have eyn : y.toNat = fwN Ab bt' t := by omega
              refine R_X11_findLeast_90 R (ih _ _ _ _ _ _ (wn hx (by omega)) (by rw [e1]; exact wn hy (by omega)) (fun u v hu => ?_) (fun i hi => ?_))
              · rw [up_ne (by omega)]; exact f2 u v hu
              · rw [e1] at hi
                rw [eyn]
                by_cases q : i = fwN Ab bt' t
                · subst q
                  rw [fwA, if_pos ⟨⟨by omega, hc⟩, rfl⟩]
                  exact up_eq.trans hx
                · rw [up_ne (by omega), fwA, if_neg (by omega)]; exact hfw i (by omega)
            · have g3 : andI (shrI bt' (Ab 0 t)) 1 = 0 := Classical.not_not.mp g3
              rw [bb] at g3
              unfold fwC2 at z
              rw [Bool.and_eq_true] at z
              rw [z.2] at g3
              exact absurd g3 (by decide)
    exact things 0 (Nat.zero_le _) _ _ M1 _ _ _ rfl rfl (fun _ _ _ => rfl) (fun i hi => absurd hi (Nat.not_lt_zero i))

  · exact h.elim
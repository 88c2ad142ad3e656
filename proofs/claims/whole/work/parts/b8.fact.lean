def b_factF_9 (F : FT) : List AT := [tx_il 0, tx_il 0, tx_ic 1, tx_bin f_sub, tx_call F 1, tx_bin f_mul, tx_fall 17]
def R_factF (F : FT) (J : JT) (Q : QT) : Prop := (∀ ls st M, wpl J Q b_X11_factorial_0 ls st M → J 0 ls st M) ∧ (∀ ls st M, wpl J Q (b_factF_9 F) ls st M → J 9 ls st M) ∧ (∀ ls st M, wpl J Q b_X11_factorial_17 ls st M → J 17 ls st M)
def GF (k : Nat) : FN := fun as M Q => match as with
  | [.inl n] => (0 ≤ n ∧ n < (k : Int) ∧ n ≤ 3) ∧ Q (some (vI (fcN n.toNat))) M
  | _ => False
theorem P_factF {k : Nat} {J : JT} {Q : QT} (R : R_factF (nf (GF k)) J Q) {as : List Vl} {M : Mem} (h : nf (GF (k + 1)) as M Q) : (enL as).length ≤ 1 ∧ J 0 (padL 1 (enL as)) [] M := by
  unfold nf GF at h
  split at h
  · rename_i n
    obtain ⟨⟨n0, nk, n3⟩, hQ⟩ := h
    refine ⟨Nat.le_of_ble_eq_true rfl, ?_⟩
    rcases (show n = 0 ∨ n = 1 ∨ n = 2 ∨ n = 3 by omega) with rfl | rfl | rfl | rfl
    · exact R.1 _ _ _ (bf (by decide) (R.2.2 _ _ _ hQ))
    · exact R.1 _ _ _ (bf (by decide) (R.2.2 _ _ _ hQ))
    · exact R.1 _ _ _ (bt (by decide) (R.2.1 _ _ _ ⟨⟨by decide, (show (1 : Int) < (k : Int) by omega), by decide⟩, R.2.2 _ _ _ hQ⟩))
    · exact R.1 _ _ _ (bt (by decide) (R.2.1 _ _ _ ⟨⟨by decide, (show (2 : Int) < (k : Int) by omega), by decide⟩, R.2.2 _ _ _ hQ⟩))
  · exact h.elim
theorem wg1593 : Cond.code ⟨"WeighedHallModel", "factorial", "(I)I"⟩ prog_13_method_64_code 1 (Option.some .int) ∈ GT := gt_mem 1713 (by decide +kernel) rfl
theorem wg12 : Cond.initialized "WeighedHallModel" ∈ GT := gt_mem 132 (by decide +kernel) rfl
theorem wg1591 : Cond.methodLink "WeighedHallModel" 299 ⟨"WeighedHallModel", "factorial", "(I)I"⟩ ∈ GT := gt_mem 1711 (by decide +kernel) rfl
theorem wg1592 : Cond.static ⟨"WeighedHallModel", "factorial", "(I)I"⟩ ∈ GT := gt_mem 1712 (by decide +kernel) rfl
theorem d_X11_factorial_0 : decode cX11_factorial 0 = .ok (.iload_n 0, 1) := by decide +kernel
theorem d_X11_factorial_1 : decode cX11_factorial 1 = .ok (.iconst 2, 1) := by decide +kernel
theorem d_X11_factorial_2 : decode cX11_factorial 2 = .ok (.if_icmp .ge 7, 3) := by decide +kernel
theorem d_X11_factorial_5 : decode cX11_factorial 5 = .ok (.iconst 1, 1) := by decide +kernel
theorem d_X11_factorial_6 : decode cX11_factorial 6 = .ok (.goto 11, 3) := by decide +kernel
theorem d_X11_factorial_9 : decode cX11_factorial 9 = .ok (.iload_n 0, 1) := by decide +kernel
theorem d_X11_factorial_10 : decode cX11_factorial 10 = .ok (.iload_n 0, 1) := by decide +kernel
theorem d_X11_factorial_11 : decode cX11_factorial 11 = .ok (.iconst 1, 1) := by decide +kernel
theorem d_X11_factorial_12 : decode cX11_factorial 12 = .ok (.isub, 1) := by decide +kernel
theorem d_X11_factorial_13 : decode cX11_factorial 13 = .ok (.invokestatic 299, 3) := by decide +kernel
theorem d_X11_factorial_16 : decode cX11_factorial 16 = .ok (.imul, 1) := by decide +kernel
theorem d_X11_factorial_17 : decode cX11_factorial 17 = .ok (.ireturn, 1) := by decide +kernel
set_option maxRecDepth 100000 in
theorem L_factF {fr lc : Nat} {F : FT} {p : Program} {l : Launch} {e : Env} {s : State} {m : MethodId} {args : Array Value} {below : List Frame} {meth : Method} {c : Code} {D : va_G} {ca : Nat → ClassId} {ad sx sy : Nat → Nat} {A : Nat → Prop} {Q : QT} (hCt : Ctr l yX11_factorial cX11_factorial 1 (some .int) fr lc 0 (fun _ => F)) (C0 : CX p s m args meth c cX11_factorial 1 yX11_factorial.cls D ca ad A) (hE : EX sx sy A s s.heap) (hr : meth.sig.returnType = (some .int)) (hno : ∀ x ∈ c.exceptionTable.toList, False) : R_factF F (JW p l e { frames := fr + 1, cells := 0, slots := 6 * 0, locals := 20 + lc } s m args below meth c 1 D ca ad A (vx_MQ below (Qn D ca ad A Q) (Qx D ca ad A Q) args s 0 (6 * 0) A) gz gz true) Q := ⟨s_iln C0 (d_X11_factorial_0) hgz (s_ic C0 (d_X11_factorial_1) hgz (s_cge C0 (d_X11_factorial_2) (by decide) hgz hgz (fun _ _ _ h => h) (s_ic C0 (d_X11_factorial_5) hgz (s_goto C0 (tgt := 17) (d_X11_factorial_6) (by decide) hgz (fun _ _ _ h => h)) (okn rfl))) (okn rfl)),
  s_iln C0 (d_X11_factorial_9) hgz (s_iln C0 (d_X11_factorial_10) hgz (s_ic C0 (d_X11_factorial_11) hgz (s_sub C0 (d_X11_factorial_12) hgz (s_callS C0 hE hCt wg1593 wg1591 wg1592 wg12 ⟨by decide, by decide⟩ (by decide +kernel) ⟨Nat.le_refl _, Nat.le_refl _⟩ ⟨Nat.le_refl _, Nat.le_refl _⟩ (d_X11_factorial_13) (fun x hx => (hno x hx).elim) ⟨by decide, by decide⟩ ⟨by decide, by decide⟩ (s_mul C0 (d_X11_factorial_16) hgz (fun _ _ _ h => h)))) (okn rfl))),
  s_ri C0 hr (d_X11_factorial_17) ⟨by decide, by decide⟩⟩
theorem c_factF (l : Launch) : ∀ k : Nat, Ctr l yX11_factorial cX11_factorial 1 (some .int) (10 + k) (200 + 20 * k) 0 (fun _ => nf (GF k))
  | 0 => fun _ _ _ _ _ _ _ as _ _ _ _ _ _ _ hF => by
    exfalso
    have hF : nf (GF 0) _ _ _ := hF
    unfold nf GF at hF
    split at hF
    · omega
    · exact hF
  | k + 1 => by
    have e : 200 + 20 * (k + 1) = 20 + (200 + 20 * k) := by omega
    rw [e]
    exact ctr_of (by decide) gz gz ⟨rfl, rfl⟩ (fun p e s m args below meth c D ca ad sx sy A Q as M C0 hE hr hno hF => P_factF (L_factF (c_factF l k) C0 hE hr hno) hF)
theorem c_X11_factorial (l : Launch) : Ctr l yX11_factorial cX11_factorial 1 (some .int) 14 280 0 (fun sx => (nf G_X11_factorial)) := by
  intro D ca ad sx sy A sz as M post hinj hA hsz hR hoa hF
  refine c_factF l 4 D ca ad sx sy A sz as M post hinj hA hsz hR hoa ?_
  have hF : nf G_X11_factorial as M post := hF
  show nf (GF 4) as M post
  unfold nf G_X11_factorial at hF
  split at hF
  · exact ⟨⟨hF.1.1, by have := hF.1.2; show _ < (4 : Int); omega, hF.1.2⟩, hF.2⟩
  · exact hF.elim

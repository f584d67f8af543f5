/-! the law: from its entry -/
theorem fw_L_7 : cx_FW RL 7 7 [.null, .null, .null, .null, .null, .null, .null] := ⟨RX7, TX7, 7, tyX7, rfl, lwX7, tyX7_ok, (ux_m1 14 rfl rfl), (ux_m1 15 rfl rfl), (ux_m1 1 rfl rfl), rfl, dfX7⟩
theorem fw_L_10 : cx_FW RL 10 8 [.int 0, .null, .null, .null, .null, .null, .int 0, .int 0, .null, .int 0, .int 0, .null, .null, .null, .null, .null, .null, .null, .null, .int 0, .int 0, .null, .int 0, .null, .null, .null, .null, .int 0, .int 0, .null, .int 0, .int 0, .null, .null, .null, .null, .null, .int 0] := ⟨RX8, TX8, 38, tyX8, rfl, lwX8, tyX8_ok, (ux_m3 170 rfl rfl), (ux_m3 171 rfl rfl), (ux_m1 10 rfl rfl), rfl, dfX8⟩
theorem fi_L_9 : cx_FI RL 9 yX7_init cX7_init 1 := ⟨(ux_m1 16 rfl rfl), (ux_m1 17 rfl rfl), (ux_m1 1 rfl rfl), (ux_m1 18 rfl rfl), rfl, ⟨by decide, by decide, by decide +kernel⟩, by decide⟩
theorem fi_L_12 : cx_FI RL 12 yX8_init cX8_init 1 := ⟨(ux_m3 172 rfl rfl), (ux_m3 173 rfl rfl), (ux_m1 10 rfl rfl), (ux_m3 174 rfl rfl), rfl, ⟨by decide, by decide, by decide +kernel⟩, by decide⟩
theorem lx_new {p : Program} {l : Launch} {e : Env} {R : Room} {s : State} {m : MethodId} {args : Array Value} {below : List Frame} {meth : Method} {c : Code} {H : Heap} {locs : List Loc} {cells slots : Nat} {Q : State → Prop} {cc : ByteArray} {pc : Nat} {ls : Array Slot} {rest : List Value} {G : ux_G} {A : Nat → Prop} {w : va_W} {H0 : Heap} {own : String} {idx ci N : Nat} {fs : List Value} (hx : p.tables.exec = Jvm.exec) (hb : c.code = cc) (hW : ∀ w ∈ ux_WA, w.before args s = true) (hown : s.vm.findClass own = some m.cls) (F : cx_FW own idx ci fs) (hK : va_K (ux_D G) ux_cl (ux_ty G) s) (hP : va_P (ux_D G) ux_cl w H) (hD : va_D A w) (hS : va_S A H0 H locs) (hA : ∀ q, H0.size ≤ q → A q) (hN : fs.length = N) (hc : cells + 1 ≤ R.cells) (hs : slots + N ≤ R.slots) (hdg : decode cc pc = .ok (.new idx, 3))
    (kk : ∀ (r : Nat) (H1 : Heap), va_P (ux_D G) ux_cl (w ++ [(r, .inr (ci, fs))]) H1 → va_D A (w ++ [(r, .inr (ci, fs))]) → va_S A H0 H1 locs → W p l e R s m args below meth c H1 locs (cells + 1) (slots + N) Q (F0 m (pc + 3) ls (.ref r :: rest))) : W p l e R s m args below meth c H locs cells slots Q (F0 m pc ls rest) := by
  subst hN
  obtain ⟨C, T, N, ty0, g1, g2, g3, g4, g5, g6, g7, g8⟩ := F
  subst g7
  exact va_new hx hb hW g2 ty0 g3 hown (hW _ g4) (hW _ g5) (hW _ g6) hK hP hD hS hA g1 g8 hc hs hdg kk
/-- from the made world on -/
theorem lx_made {l : Launch} {b L : Nat} {xs : Nat → Int32} (hL : L ≤ 2560) {D1 : Nat → ClassId} {D2 : Nat → Nat → Nat} {cA : Nat → ClassId} {h0 : Nat} {o1 : Nat} {a2 : Nat} {a3 : Nat} {a4 : Nat} {a5 : Nat} {a6 : Nat} {f7 : Nat → Nat} {o8 : Nat} {a9 : Nat} {o10 : Nat} {a11 : Nat} {a12 : Nat} {a13 : Nat} {a14 : Nat} {a15 : Nat} {a16 : Nat} {f17 : Nat → Nat} {o18 : Nat} {a19 : Nat} {f20 : Nat → Nat} {a21 : Nat} {a22 : Nat} {o23 : Nat} {a24 : Nat} {a25 : Nat} {a26 : Nat} {f27 : Nat → Nat} {a28 : Nat} {o29 : Nat} {a30 : Nat} {o31 : Nat} {a32 : Nat} {a33 : Nat} {a34 : Nat} {a35 : Nat} {a36 : Nat} {h1 : Nat} {b1 : Nat} {b2 : Nat} {b3 : Nat} {b4 : Nat} {b5 : Nat} {b6 : Nat} {b7 : Nat} {b8 : Nat} {b9 : Nat} {b10 : Nat} {b11 : Nat} {b12 : Nat} {b13 : Nat} {b14 : Nat} {b15 : Nat} {b16 : Nat} {b17 : Nat} {b18 : Nat} {b19 : Nat} {b20 : Nat} {b21 : Nat} {b22 : Nat} {b23 : Nat} {b24 : Nat} {b25 : Nat} {p : Program} {e : Env} {s : State} {m : MethodId} {below : List Frame} {meth : Method} {c : Code} (C0 : lw_At p s m meth c b L xs) (hK : va_K (D1, D2) ux_cl (ux_ty (D1, D2, cA, fun _ => 0)) s) {H : Heap} {locs : List Loc} (hP : va_P (D1, D2) ux_cl (st_w (D1, D2, cA, fun _ => 0) h0 o1 a2 a3 a4 a5 a6 f7 o8 a9 o10 a11 a12 a13 a14 a15 a16 f17 o18 a19 f20 a21 a22 o23 a24 a25 a26 f27 a28 o29 a30 o31 a32 a33 a34 a35 a36 h1 b1 b2 b3 b4 b5 b6 b7 b8 b9 b10 b11 b12 b13 b14 b15 b16 b17 b18 b19 b20 b21 b22 b23 b24 b25) H) (hD : va_D (fun q : Nat => s.heap.size ≤ q) (st_w (D1, D2, cA, fun _ => 0) h0 o1 a2 a3 a4 a5 a6 f7 o8 a9 o10 a11 a12 a13 a14 a15 a16 f17 o18 a19 f20 a21 a22 o23 a24 a25 a26 f27 a28 o29 a30 o31 a32 a33 a34 a35 a36 h1 b1 b2 b3 b4 b5 b6 b7 b8 b9 b10 b11 b12 b13 b14 b15 b16 b17 b18 b19 b20 b21 b22 b23 b24 b25)) (hS : va_S (fun q : Nat => s.heap.size ≤ q) s.heap H locs) {ls : Array Slot} (hl : lv_has ls 4 [(3, .int 0), (2, .ref h1), (1, .ref h0), (0, .ref b)]) : W p l e room_1 s m #[Value.ref b] below meth c H locs 79 1243 (lw_Z below #[Value.ref b] s) (F0 m 18 ls []) := by
  obtain ⟨r1, r2, r3⟩ := cx_conv (G := (D1, D2, cA, st_a h0 o1 a2 a3 a4 a5 a6 f7 o8 a9 o10 a11 a12 a13 a14 a15 a16 f17 o18 a19 f20 a21 a22 o23 a24 a25 a26 f27 a28 o29 a30 o31 a32 a33 a34 a35 a36 h1 b1 b2 b3 b4 b5 b6 b7 b8 b9 b10 b11 b12 b13 b14 b15 b16 b17 b18 b19 b20 b21 b22 b23 b24 b25)) (S := st_S) st_perm st_inj st_cells hP hD
  exact lx_loop hL (L + 1) 0 st_S (by omega) (by omega) st_rel p e s m below meth c ⟨C0, lx_K C0.2.2.2.2.2.1 r2 hK, r3⟩ ls (lv_sub (l' := lx_lv b (D1, D2, cA, st_a h0 o1 a2 a3 a4 a5 a6 f7 o8 a9 o10 a11 a12 a13 a14 a15 a16 f17 o18 a19 f20 a21 a22 o23 a24 a25 a26 f27 a28 o29 a30 o31 a32 a33 a34 a35 a36 h1 b1 b2 b3 b4 b5 b6 b7 b8 b9 b10 b11 b12 b13 b14 b15 b16 b17 b18 b19 b20 b21 b22 b23 b24 b25) 0) hl [3, 2, 1, 0] rfl) H locs r1 hS
set_option maxHeartbeats 4000000 in
theorem whole_start {p : Program} {e : Env} {s : State} {m : MethodId} {below : List Frame} {meth : Method} {c : Code} (l : Launch) {b L : Nat} {xs : Nat → Int32} (hL : L ≤ 2560) (C0 : lw_At p s m meth c b L xs) : W p l e room_1 s m #[Value.ref b] below meth c s.heap [] 0 0 (lw_Z below #[Value.ref b] s) (entryFrame m ([Value.ref b] : List Value).toArray 4) := by
  have hx := C0.1
  have hb : c.code = cL_law := C0.2.1
  have hml := C0.2.2.2.1
  have hown : s.vm.findClass RL = some m.cls := C0.2.2.2.2.1
  have hts := C0.2.2.2.2.2.1
  have hW : ∀ w ∈ ux_WA, w.before #[Value.ref b] s = true := fun w hw => hts w (List.mem_filter.mp hw).1
  have hN := lx_N hts
  obtain ⟨D1, D2, cA, hK0⟩ := lx_known hts
  have hK : va_K (ux_D (D1, D2, cA, fun _ => 0)) ux_cl (ux_ty (D1, D2, cA, fun _ => 0)) s := hK0
  have hA : ∀ q : Nat, s.heap.size ≤ q → (fun q : Nat => s.heap.size ≤ q) q := fun _ h => h
  have hS : va_S (fun q : Nat => s.heap.size ≤ q) s.heap s.heap [] := va_S.rf
  have hP : va_P (ux_D (D1, D2, cA, fun _ => 0)) ux_cl [] s.heap := fun k q h => (by cases h)
  have hD : va_D (fun q : Nat => s.heap.size ≤ q) [] := ⟨fun i j p q h => (by cases h), fun k q h => (by cases h)⟩
  have Sx : CallFix p m c cL_law 4 s #[Value.ref b] ux_WA RL := ⟨hx, hb, hml, hown, hW⟩
  have hl := lv_entry ([.ref b]) (n := 4) (Nat.le_of_ble_eq_true rfl)
  rw [lg_entry_eq]
  generalize (lg_sl ([.ref b]) ++ List.replicate (4 - (lg_sl ([.ref b])).length) Slot.unset).toArray = ls at hl ⊢
  have hl : lv_has ls 4 [(0, .ref b)] := hl
  refine lx_new (N := 7) hx hb hW hown fw_L_7 hK hP hD hS hA rfl (Nat.le_of_ble_eq_true rfl) (Nat.le_of_ble_eq_true rfl) dL_law_0 (fun h0 H hP hD hS => ?_)
  refine lv_dup hx hb dL_law_3 rfl ?_
  refine cx_run (wc := [(h0, .inr (7, [.null, .null, .null, .null, .null, .null, .null]))]) (wr := []) (cx_runI Sx fi_L_9 c_X7 ⟨Nat.le_of_ble_eq_true rfl, Nat.le_of_ble_eq_true rfl, Nat.le_of_ble_eq_true rfl, Nat.le_of_ble_eq_true rfl⟩ hK hN hP hD [0] rfl rfl hl.1 (Nat.le_of_ble_eq_true rfl) dL_law_4) hP hD hS hA [0] [] rfl rfl rfl (by decide) (fun H locs w1 hp hP hD hS => ?_)
  obtain ⟨o1, a2, a3, a4, a5, a6, f7, o8, a9, o10, a11, a12, a13, a14, a15, a16, f17, o18, a19, f20, a21, a22, o23, a24, a25, a26, f27, a28, o29, a30, o31, a32, a33, a34, a35, a36, rfl⟩ := hp
  refine lv_astore_n (lv' := [(1, .ref h0), (0, .ref b)]) hx hb dL_law_7 rfl hl (by decide) rfl (fun ls hl => ?_)
  refine lx_new (N := 38) hx hb hW hown fw_L_10 hK hP hD hS hA rfl (Nat.le_of_ble_eq_true rfl) (Nat.le_of_ble_eq_true rfl) dL_law_8 (fun h1 H hP hD hS => ?_)
  refine lv_dup hx hb dL_law_11 rfl ?_
  refine cx_run (wc := [(h1, .inr (8, [.int 0, .null, .null, .null, .null, .null, .int 0, .int 0, .null, .int 0, .int 0, .null, .null, .null, .null, .null, .null, .null, .null, .int 0, .int 0, .null, .int 0, .null, .null, .null, .null, .int 0, .int 0, .null, .int 0, .int 0, .null, .null, .null, .null, .null, .int 0]))]) (wr := [(h0, .inr (7, [.ref o1, .ref o8, .ref o10, .ref o18, .ref o23, .ref o29, .ref o31])), (o1, .inr (2, [.ref a2, .ref a3, .ref a4, .ref a5, .ref a6, .int 0, .int 20, .int 1])), (a2, .inl (cA 0, 8, .inl (fun _ => 0))), (a3, .inl (cA 0, 8, .inl (fun _ => 0))), (a4, .inl (cA 0, 8, .inl (fun _ => 0))), (a5, .inl (cA 0, 8, .inl (fun _ => 0))), (a6, .inl (cA 3, 8, .inr (.inr (.inr (.inr (fun i => some (f7 i))))))), (f7 0, .inl (cA 0, 8, .inl (fun _ => 0))), (f7 1, .inl (cA 0, 8, .inl (fun _ => 0))), (f7 2, .inl (cA 0, 8, .inl (fun _ => 0))), (f7 3, .inl (cA 0, 8, .inl (fun _ => 0))), (f7 4, .inl (cA 0, 8, .inl (fun _ => 0))), (f7 5, .inl (cA 0, 8, .inl (fun _ => 0))), (f7 6, .inl (cA 0, 8, .inl (fun _ => 0))), (f7 7, .inl (cA 0, 8, .inl (fun _ => 0))), (o8, .inr (5, [.ref a9, .int 10])), (a9, .inl (cA 0, 21, .inl (fun _ => 100))), (o10, .inr (4, [.ref a11, .ref a12, .int 0, .ref a13, .ref a14, .ref a15, .ref a16, .int 1000000000])), (a11, .inl (cA 0, 5, .inl (fun _ => 0))), (a12, .inl (cA 0, 5, .inl (fun _ => 0))), (a13, .inl (cA 0, 5, .inl (fun _ => 0))), (a14, .inl (cA 0, 5, .inl (fun _ => 0))), (a15, .inl (cA 0, 8, .inl (fun _ => 0))), (a16, .inl (cA 3, 6, .inr (.inr (.inr (.inr (fun i => some (f17 i))))))), (f17 0, .inl (cA 0, 8, .inl (fun _ => 0))), (f17 1, .inl (cA 0, 8, .inl (fun _ => 0))), (f17 2, .inl (cA 0, 8, .inl (fun _ => 0))), (f17 3, .inl (cA 0, 8, .inl (fun _ => 0))), (f17 4, .inl (cA 0, 8, .inl (fun _ => 0))), (f17 5, .inl (cA 0, 8, .inl (fun _ => 0))), (o18, .inr (6, [.ref a19, .ref a21, .ref a22])), (a19, .inl (cA 4, 4, .inr (.inr (.inr (.inr (fun i => some (f20 i))))))), (f20 0, .inl (cA 1, 64, .inr (.inl (fun _ => 0)))), (f20 1, .inl (cA 1, 64, .inr (.inl (fun _ => 0)))), (f20 2, .inl (cA 1, 64, .inr (.inl (fun _ => 0)))), (f20 3, .inl (cA 1, 64, .inr (.inl (fun _ => 0)))), (a21, .inl (cA 0, 4, .inl (fun _ => 0))), (a22, .inl (cA 0, 4, .inl (fun _ => -1))), (o23, .inr (1, [.ref a24, .ref a25, .ref a26, .ref a28, .int 0, .int 0])), (a24, .inl (cA 0, 16, .inl (fun _ => 0))), (a25, .inl (cA 0, 16, .inl (fun _ => 0))), (a26, .inl (cA 3, 2, .inr (.inr (.inr (.inr (fun i => some (f27 i))))))), (a28, .inl (cA 0, 16, .inl (fun _ => 0))), (f27 0, .inl (cA 0, 8, .inl (fun _ => -4))), (f27 1, .inl (cA 0, 8, .inl (fun _ => -4))), (o29, .inr (0, [.ref a30, .int 0, .int 0])), (a30, .inl (cA 0, 10, .inl (fun _ => 0))), (o31, .inr (3, [.ref a32, .ref a33, .ref a34, .ref a35, .ref a36, .int 0])), (a32, .inl (cA 0, 12, .inl (fun _ => 0))), (a33, .inl (cA 2, 12, .inl (fun _ => 0))), (a34, .inl (cA 0, 12, .inl (fun _ => 0))), (a35, .inl (cA 2, 12, .inl (fun _ => 0))), (a36, .inl (cA 0, 12, .inl (fun _ => 0)))]) (cx_runI Sx fi_L_12 c_X8 ⟨Nat.le_of_ble_eq_true rfl, Nat.le_of_ble_eq_true rfl, Nat.le_of_ble_eq_true rfl, Nat.le_of_ble_eq_true rfl⟩ hK hN hP hD [53] rfl rfl hl.1 (Nat.le_of_ble_eq_true rfl) dL_law_12) hP hD hS hA [53] [0, 1, 2, 3, 4, 5, 6, 7, 8, 9, 10, 11, 12, 13, 14, 15, 16, 17, 18, 19, 20, 21, 22, 23, 24, 25, 26, 27, 28, 29, 30, 31, 32, 33, 34, 35, 36, 37, 38, 39, 40, 41, 42, 43, 44, 45, 46, 47, 48, 49, 50, 51, 52] rfl rfl (by decide) (by decide) (fun H locs w1 hp hP hD hS => ?_)
  obtain ⟨b1, b2, b3, b4, b5, b6, b7, b8, b9, b10, b11, b12, b13, b14, b15, b16, b17, b18, b19, b20, b21, b22, b23, b24, b25, rfl⟩ := hp
  refine lv_astore_n (lv' := [(2, .ref h1), (1, .ref h0), (0, .ref b)]) hx hb dL_law_15 rfl hl (by decide) rfl (fun ls hl => ?_)
  refine lv_iconst (v := 0) hx hb dL_law_16 rfl ?_
  refine lv_istore_n (lv' := [(3, .int 0), (2, .ref h1), (1, .ref h0), (0, .ref b)]) hx hb dL_law_17 rfl hl (by decide) rfl (fun ls hl => ?_)
  exact lx_made hL C0 hK hP hD hS hl
set_option maxHeartbeats 4000000 in
theorem lw_walk (l : Launch) (b : Addr) (xs : List Int32) : MetFree l x (headSpec (Jvm.Cond.code x code maxLocals ret :: tables_1) room_1) (lw_P b xs) (fun _ _ _ _ _ => True) lw_Q := by
  refine MetFree.of_bodyS (code := code) (maxLocals := maxLocals) (ret := ret) (by decide) ?_ ?_
  · intro args s m h hn
    obtain ⟨meth, c, h1, h2, h3, h4, h5, h6, -, -⟩ := Cond.code_spec hn (atoms_spec (ws := Jvm.Cond.code x code maxLocals ret :: tables_1) h _ List.mem_cons_self)
    exact ⟨meth, c, h1, h2, h3, h4, h5, h6⟩
  · intro p e s m args below meth c s₁ B hml0 hP _
    obtain ⟨rfl, hx, hbd, hgv⟩ := hP
    obtain ⟨scr, harrAt, hlist, hof, hsmall⟩ := hx
    obtain ⟨hcb, hkn, -, -⟩ := State.arrayAt?_spec harrAt
    have hown : s.vm.findClass R_law = some m.cls := findClass_of_methodNamed B.named
    have hts0 : ∀ c ∈ (Jvm.Cond.code x code maxLocals ret :: tables_1), c.before #[Value.ref b] s = true := atoms_spec (ws := Jvm.Cond.code x code maxLocals ret :: tables_1) B.pre
    have hts : ∀ w ∈ lw_tbl, w.before #[Value.ref b] s = true := k2_hts_sels lw_privs (fun w hw => hts0 w (List.mem_cons_of_mem _ hw)) lw_privs_ok
    have hml : c.maxLocals = 4 := B.maxLocals_eq (hts0 _ List.mem_cons_self)
    have X₀ : Stand p l e room_1 s m #[Value.ref b] below meth c s₁ [] 0 0 := Stand.of_body B
    have hh0 : s₁.heap = s.heap := by rw [B.state]; rfl
    have hsz : scr.slots.size = xs.length := by rw [← Array.length_toList, hlist, List.length_map]
    have hval : ∀ j : Nat, j < xs.length → scr.slots[j]? = some (.int (xs.getD j 0)) := fun j hj => by
      rw [← Array.getElem?_toList, hlist]
      simp [hj]
    have hbl : b < s.heap.size := (Array.getElem?_eq_some_iff.mp hcb).1
    have hX : va_X b xs.length (fun j => xs.getD j 0) s s.heap := ⟨scr, hcb, hof, hkn, hsz, hval⟩
    have K : W p l e room_1 s m #[Value.ref b] below meth c s₁.heap [] 0 0 (lw_Z below #[Value.ref b] s) (entryFrame m ([Value.ref b] : List Value).toArray 4) := by
      rw [hh0]
      exact whole_start l hbd ⟨B.exec, B.bytes, B.returns, hml, hown, hts, hX, hbl, B.notSynchronized, hgv⟩
    obtain ⟨t, a1, o, b1, b2, b3⟩ := K s₁ rfl X₀
    exact ⟨t, o, a1, b1, b2, b3⟩
theorem lw_pre_spec {args : Array Value} {s : State} (h : (Jvm.Cond.and given_1 narrow_1).before args s = true) (hr : rest_1_c.before args s = true) : ∃ (b : Addr) (xs : List Int32), lw_P b xs args s := by
  have hs := flat_of_before _ h
  have hq := flat_of_before _ hr
  have hc : (Cond.count 1).before args s = true := hs _ (by decide +kernel)
  have harr : (Cond.arrayOf (.arg 0) .int).before args s = true := hs _ (by decide +kernel)
  have hle : (Cond.le (.length (.arg 0)) (.int 2560)).before args s = true := hs _ (by decide +kernel)
  have hlen : (Cond.isInt (.length (.arg 0))).before args s = true := hq _ (by decide +kernel)
  have hall : (Cond.all (.arg 0) (.isInt (.elem (.arg 0) (.index 0)))).before args s = true := hq _ (by decide +kernel)
  obtain ⟨b, xs, hb, hx⟩ := State.ints_of_pre rfl harr hlen hall
  have hsm : xs.length < 2 ^ 31 := hx.choose_spec.2.2.2
  have hev : (Term.length (.arg 0)).eval args s none [] s = some (.int xs.length.toInt32) := hx.length_eval hb
  have hv := Cond.le_ints hev (show (Term.int 2560).eval args s none [] s = some (.int 2560) from rfl)
  have hd : xs.length.toInt32 ≤ 2560 := by
    simpa [Cond.before, Cond.holds, hv] using hle
  have hN : xs.length ≤ 2560 := (Int32.ofNat_le_ofNat hsm (by decide)).mp (show Int32.ofNat xs.length ≤ Int32.ofNat 2560 from hd)
  exact ⟨b, xs, Cond.one_arg hc (show args[0]? = some (.ref b) from hb), hx, hN, h⟩
theorem lw_comes (l : Launch) : Comes l x (Jvm.Cond.code x code maxLocals ret :: tables_1) room_1 (fun tb e args s => Calls_1 tb e args s ∧ rest_1 tb e args s ∧ Pre_1 tb e args s)
    (fun _ _ args s o t => lw_Q args s o t) := by
  intro p e ha hc hk s m args below hf hfit hheap happ hpre
  obtain ⟨b, xs, hP⟩ := lw_pre_spec hpre.2.2 hpre.2.1
  obtain ⟨k, o, h1, h2, h3, hQ⟩ := lw_walk l b xs p e ha hc hk s m args below hf ((Spec.applies_iff_loose hf).mp happ).1 hP trivial
  exact ⟨k, o, h1, h2, h3, hQ⟩
theorem lw_frame {s t : State} {o : Outcome} {args : Array Value} (h : Framed s o t [] 600000 7302250) :
    Framed s o t (fieldLocs frame_1_writes args s ++ arrayLocs frame_1_arrays args s ++ staticLocs frame_1_statics s) 600000 7302250 := h
theorem lw_limb (L : Cond) (hL : ∀ (args : Array Value) (s t : State), L.after args s (.returned (some (.int 1))) t = true) :
    ArmFor flags0 classFile x code maxLocals ret World_1 tables_1 room_1 Calls_1 rest_1 Pre_1
      (fun tb e a s o t => postC L tb e a s o t ∧ Framed s o t (fieldLocs frame_1_writes a s ++ arrayLocs frame_1_arrays a s ++ staticLocs frame_1_statics s) 600000 7302250) := by
  intro l _ _ _ p e ha hc hk s m args below hf hfit hheap happ hpre
  obtain ⟨k, o, h1, h2, h3, rfl, hF⟩ := lw_comes l p e ha hc hk s m args below hf hfit hheap happ hpre
  exact ⟨k, _, h1, h2, h3, hL args s _, lw_frame hF⟩
theorem i_vc : Claimed_1_1 ∧ Claimed_1_2 := ⟨lw_limb limb_1_1 (fun args s t => by simp [limb_1_1, Cond.after, Cond.holds, Cond.value]), lw_limb limb_1_2 (fun args s t => Cond.after_iff.mpr (by
  first | (rw [show limb_1_2 = Cond.eq .result (.int 1) from rfl, Cond.eq_ints (x := 1) (y := 1) rfl rfl]; simp; done) | (simp [limb_1_2, Cond.value, Term.eval]; done)))⟩

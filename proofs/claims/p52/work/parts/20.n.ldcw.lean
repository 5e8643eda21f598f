-- ===== a String constant by a wide index =====
theorem x_ldcwString {p : Program} {l : Launch} {e : Env} {R : Room} {s : State} {m : MethodId} {args : Array Value} {below : List Frame} {meth : Method} {c : Code} {T : State} {locs : List Loc} {cells slots : Nat}
    (X : Stand p l e R s m args below meth c T locs cells slots) (hexec : p.tables.exec = Jvm.exec) {own text : String} {index : Nat} {a : Addr} (hown : s.vm.findClass own = some m.cls)
    (hconst : (Cond.stringRef own index text).before args s = true) (hev : (Term.string own index).eval args s none [] s = some (.ref a)) {g : JFrame} (hg : g.method = m) (hdg : decode c.code g.pc = .ok (.ldc_w index, 3)) :
    ∀ target, Steps p.tables e below (T.setTop { g with pc := g.pc + 3, stack := .ref a :: g.stack }) target → Steps p.tables e below (T.setTop g) target := by
  obtain ⟨k, cf, i, a', hk, hcf, hcp, -, hr, hev'⟩ := Cond.stringRef_spec hown hconst
  cases hev.symm.trans hev'
  obtain ⟨k', hk', he⟩ := X.warmed.alike.2.2 _ _ hk
  have hr' : k'.resolved[index]? = some (some (.string a)) := by
    rcases X.warmed.entry hk hk' index with h | ⟨h, -⟩
    · rw [h]; exact hr
    · rw [hr] at h; cases h
  intro target hrest
  subst hg
  jvm_step X.here [hexec, hdg, ldc_w.wp_string (e := e) (s := T) (f := g) X.here.top hk' (by rw [he]; exact hcf) hcp hr']
  exact hrest
theorem V_ldcwS {X : Cx} {S : Sx} {cc : ByteArray} {own : String} {nL : Nat} {rm : Room} {w : Wd} {pc : Nat} {lv : List (Nat × Value)} {st : List Value} {index k : Nat} {tx : String} (hX : Ok X S cc own nL rm) (d : decode cc pc = .ok (.ldc_w index, 3)) (hs : ∀ s, Sw S s → vk_R own index tx (adK S k) s) (kk : V X S w (pc + 3) lv (.ref (adK S k) :: st)) : V X S w pc lv st := by
  obtain ⟨p, l, e, R, s, m, args, below, meth, c, Q⟩ := X
  obtain ⟨h1, h2, h3, h4, h5, h6, h7⟩ := hX
  intro H locs ls hP hS hv T hT Y
  obtain ⟨t, a1, b1⟩ := kk H locs ls hP hS hv T hT Y
  exact ⟨t, x_ldcwString Y h1 h5 (text := tx) (a := adK S k) (hs s h7).1 (hs s h7).2 (g := F0 m pc ls st) rfl (by rw [h2]; exact d) t a1, b1⟩

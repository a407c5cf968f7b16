theorem yf_X11_worthOf : Cond.instanceMethod yX11_worthOf ∈ jq_T ∧ Cond.selects (yX11_worthOf).cls yX11_worthOf yX11_worthOf ∈ jq_T ∧ Cond.initialized (yX11_worthOf).cls ∈ jq_T ∧ Cond.code yX11_worthOf cX11_worthOf 4 (some .int) ∈ jq_T ∧ ((yX11_worthOf).cls ≠ "java/lang/invoke/MethodHandle" ∧ (yX11_worthOf).cls ≠ "java/lang/invoke/VarHandle" ∧ (parseMethodDescriptor (yX11_worthOf).desc).map (fun d => d.parameters.length) = some 1) := ⟨jq_in 1889 (by decide +kernel) rfl, jq_in 75 (by decide +kernel) rfl, jq_in 150 (by decide +kernel) rfl, jq_in 1890 (by decide +kernel) rfl, ⟨by decide, by decide, by decide +kernel⟩⟩
theorem ml_RX11_278 : jq_vl RX11 278 yX11_worthOf cX11_worthOf 4 (some .int) 1 := ⟨jq_in 1887 (by decide +kernel) rfl, yf_X11_worthOf⟩
theorem yf_X11_leastOf : Cond.instanceMethod yX11_leastOf ∈ jq_T ∧ Cond.selects (yX11_leastOf).cls yX11_leastOf yX11_leastOf ∈ jq_T ∧ Cond.initialized (yX11_leastOf).cls ∈ jq_T ∧ Cond.code yX11_leastOf cX11_leastOf 2 (some .int) ∈ jq_T ∧ ((yX11_leastOf).cls ≠ "java/lang/invoke/MethodHandle" ∧ (yX11_leastOf).cls ≠ "java/lang/invoke/VarHandle" ∧ (parseMethodDescriptor (yX11_leastOf).desc).map (fun d => d.parameters.length) = some 1) := ⟨jq_in 1913 (by decide +kernel) rfl, jq_in 80 (by decide +kernel) rfl, jq_in 150 (by decide +kernel) rfl, jq_in 1914 (by decide +kernel) rfl, ⟨by decide, by decide, by decide +kernel⟩⟩
theorem ml_RX11_281 : jq_vl RX11 281 yX11_leastOf cX11_leastOf 2 (some .int) 1 := ⟨jq_in 1911 (by decide +kernel) rfl, yf_X11_leastOf⟩
theorem yf_X11_doesSign : Cond.instanceMethod yX11_doesSign ∈ jq_T ∧ Cond.selects (yX11_doesSign).cls yX11_doesSign yX11_doesSign ∈ jq_T ∧ Cond.initialized (yX11_doesSign).cls ∈ jq_T ∧ Cond.code yX11_doesSign cX11_doesSign 2 (some .boolean) ∈ jq_T ∧ ((yX11_doesSign).cls ≠ "java/lang/invoke/MethodHandle" ∧ (yX11_doesSign).cls ≠ "java/lang/invoke/VarHandle" ∧ (parseMethodDescriptor (yX11_doesSign).desc).map (fun d => d.parameters.length) = some 1) := ⟨jq_in 1885 (by decide +kernel) rfl, jq_in 74 (by decide +kernel) rfl, jq_in 150 (by decide +kernel) rfl, jq_in 1886 (by decide +kernel) rfl, ⟨by decide, by decide, by decide +kernel⟩⟩
theorem ml_RX11_284 : jq_vl RX11 284 yX11_doesSign cX11_doesSign 2 (some .boolean) 1 := ⟨jq_in 1883 (by decide +kernel) rfl, yf_X11_doesSign⟩
theorem mw_RX11_287 : Cond.methodLink RX11 287 Lib.Math.max.name ∈ jq_T := jq_in 2156 (by decide +kernel) rfl
theorem yf_X11_articleRow : Cond.static yX11_articleRow ∈ jq_T ∧ Cond.initialized (yX11_articleRow).cls ∈ jq_T ∧ Cond.code yX11_articleRow cX11_articleRow 1 (some .int) ∈ jq_T ∧ ((yX11_articleRow).cls ≠ "java/lang/invoke/MethodHandle" ∧ (yX11_articleRow).cls ≠ "java/lang/invoke/VarHandle" ∧ (parseMethodDescriptor (yX11_articleRow).desc).map (fun d => d.parameters.length) = some 1) := ⟨jq_in 1924 (by decide +kernel) rfl, jq_in 150 (by decide +kernel) rfl, jq_in 1925 (by decide +kernel) rfl, ⟨by decide, by decide, by decide +kernel⟩⟩
theorem ml_RX11_290 : jq_sl RX11 290 yX11_articleRow cX11_articleRow 1 (some .int) 1 := ⟨jq_in 1923 (by decide +kernel) rfl, yf_X11_articleRow⟩
theorem yf_X11_isAgreed : Cond.instanceMethod yX11_isAgreed ∈ jq_T ∧ Cond.selects (yX11_isAgreed).cls yX11_isAgreed yX11_isAgreed ∈ jq_T ∧ Cond.initialized (yX11_isAgreed).cls ∈ jq_T ∧ Cond.code yX11_isAgreed cX11_isAgreed 2 (some .boolean) ∈ jq_T ∧ ((yX11_isAgreed).cls ≠ "java/lang/invoke/MethodHandle" ∧ (yX11_isAgreed).cls ≠ "java/lang/invoke/VarHandle" ∧ (parseMethodDescriptor (yX11_isAgreed).desc).map (fun d => d.parameters.length) = some 1) := ⟨jq_in 1921 (by decide +kernel) rfl, jq_in 82 (by decide +kernel) rfl, jq_in 150 (by decide +kernel) rfl, jq_in 1922 (by decide +kernel) rfl, ⟨by decide, by decide, by decide +kernel⟩⟩
theorem ml_RX11_293 : jq_vl RX11 293 yX11_isAgreed cX11_isAgreed 2 (some .boolean) 1 := ⟨jq_in 1919 (by decide +kernel) rfl, yf_X11_isAgreed⟩
theorem yf_X11_agreedNow : Cond.instanceMethod yX11_agreedNow ∈ jq_T ∧ Cond.selects (yX11_agreedNow).cls yX11_agreedNow yX11_agreedNow ∈ jq_T ∧ Cond.initialized (yX11_agreedNow).cls ∈ jq_T ∧ Cond.code yX11_agreedNow cX11_agreedNow 3 (some .int) ∈ jq_T ∧ ((yX11_agreedNow).cls ≠ "java/lang/invoke/MethodHandle" ∧ (yX11_agreedNow).cls ≠ "java/lang/invoke/VarHandle" ∧ (parseMethodDescriptor (yX11_agreedNow).desc).map (fun d => d.parameters.length) = some 0) := ⟨jq_in 1917 (by decide +kernel) rfl, jq_in 81 (by decide +kernel) rfl, jq_in 150 (by decide +kernel) rfl, jq_in 1918 (by decide +kernel) rfl, ⟨by decide, by decide, by decide +kernel⟩⟩
theorem ml_RX11_296 : jq_vl RX11 296 yX11_agreedNow cX11_agreedNow 3 (some .int) 0 := ⟨jq_in 1915 (by decide +kernel) rfl, yf_X11_agreedNow⟩
theorem yf_X11_isOpen : Cond.instanceMethod yX11_isOpen ∈ jq_T ∧ Cond.selects (yX11_isOpen).cls yX11_isOpen yX11_isOpen ∈ jq_T ∧ Cond.initialized (yX11_isOpen).cls ∈ jq_T ∧ Cond.code yX11_isOpen cX11_isOpen 2 (some .boolean) ∈ jq_T ∧ ((yX11_isOpen).cls ≠ "java/lang/invoke/MethodHandle" ∧ (yX11_isOpen).cls ≠ "java/lang/invoke/VarHandle" ∧ (parseMethodDescriptor (yX11_isOpen).desc).map (fun d => d.parameters.length) = some 1) := ⟨jq_in 1932 (by decide +kernel) rfl, jq_in 84 (by decide +kernel) rfl, jq_in 150 (by decide +kernel) rfl, jq_in 1933 (by decide +kernel) rfl, ⟨by decide, by decide, by decide +kernel⟩⟩
theorem ml_RX11_299 : jq_vl RX11 299 yX11_isOpen cX11_isOpen 2 (some .boolean) 1 := ⟨jq_in 1930 (by decide +kernel) rfl, yf_X11_isOpen⟩
theorem yf_X11_seatsNow : Cond.instanceMethod yX11_seatsNow ∈ jq_T ∧ Cond.selects (yX11_seatsNow).cls yX11_seatsNow yX11_seatsNow ∈ jq_T ∧ Cond.initialized (yX11_seatsNow).cls ∈ jq_T ∧ Cond.code yX11_seatsNow cX11_seatsNow 2 none ∈ jq_T ∧ ((yX11_seatsNow).cls ≠ "java/lang/invoke/MethodHandle" ∧ (yX11_seatsNow).cls ≠ "java/lang/invoke/VarHandle" ∧ (parseMethodDescriptor (yX11_seatsNow).desc).map (fun d => d.parameters.length) = some 0) := ⟨jq_in 1866 (by decide +kernel) rfl, jq_in 70 (by decide +kernel) rfl, jq_in 150 (by decide +kernel) rfl, jq_in 1867 (by decide +kernel) rfl, ⟨by decide, by decide, by decide +kernel⟩⟩
theorem ml_RX11_302 : jq_vl RX11 302 yX11_seatsNow cX11_seatsNow 2 none 0 := ⟨jq_in 1864 (by decide +kernel) rfl, yf_X11_seatsNow⟩
theorem yf_X11_sitting : Cond.instanceMethod yX11_sitting ∈ jq_T ∧ Cond.selects (yX11_sitting).cls yX11_sitting yX11_sitting ∈ jq_T ∧ Cond.initialized (yX11_sitting).cls ∈ jq_T ∧ Cond.code yX11_sitting cX11_sitting 3 (some .int) ∈ jq_T ∧ ((yX11_sitting).cls ≠ "java/lang/invoke/MethodHandle" ∧ (yX11_sitting).cls ≠ "java/lang/invoke/VarHandle" ∧ (parseMethodDescriptor (yX11_sitting).desc).map (fun d => d.parameters.length) = some 0) := ⟨jq_in 1877 (by decide +kernel) rfl, jq_in 72 (by decide +kernel) rfl, jq_in 150 (by decide +kernel) rfl, jq_in 1878 (by decide +kernel) rfl, ⟨by decide, by decide, by decide +kernel⟩⟩
theorem ml_RX11_305 : jq_vl RX11 305 yX11_sitting cX11_sitting 3 (some .int) 0 := ⟨jq_in 1875 (by decide +kernel) rfl, yf_X11_sitting⟩
theorem yf_X11_signing : Cond.instanceMethod yX11_signing ∈ jq_T ∧ Cond.selects (yX11_signing).cls yX11_signing yX11_signing ∈ jq_T ∧ Cond.initialized (yX11_signing).cls ∈ jq_T ∧ Cond.code yX11_signing cX11_signing 3 (some .int) ∈ jq_T ∧ ((yX11_signing).cls ≠ "java/lang/invoke/MethodHandle" ∧ (yX11_signing).cls ≠ "java/lang/invoke/VarHandle" ∧ (parseMethodDescriptor (yX11_signing).desc).map (fun d => d.parameters.length) = some 0) := ⟨jq_in 1881 (by decide +kernel) rfl, jq_in 73 (by decide +kernel) rfl, jq_in 150 (by decide +kernel) rfl, jq_in 1882 (by decide +kernel) rfl, ⟨by decide, by decide, by decide +kernel⟩⟩
theorem ml_RX11_308 : jq_vl RX11 308 yX11_signing cX11_signing 3 (some .int) 0 := ⟨jq_in 1879 (by decide +kernel) rfl, yf_X11_signing⟩
theorem yf_X11_openNow : Cond.instanceMethod yX11_openNow ∈ jq_T ∧ Cond.selects (yX11_openNow).cls yX11_openNow yX11_openNow ∈ jq_T ∧ Cond.initialized (yX11_openNow).cls ∈ jq_T ∧ Cond.code yX11_openNow cX11_openNow 3 (some .int) ∈ jq_T ∧ ((yX11_openNow).cls ≠ "java/lang/invoke/MethodHandle" ∧ (yX11_openNow).cls ≠ "java/lang/invoke/VarHandle" ∧ (parseMethodDescriptor (yX11_openNow).desc).map (fun d => d.parameters.length) = some 0) := ⟨jq_in 1928 (by decide +kernel) rfl, jq_in 83 (by decide +kernel) rfl, jq_in 150 (by decide +kernel) rfl, jq_in 1929 (by decide +kernel) rfl, ⟨by decide, by decide, by decide +kernel⟩⟩
theorem ml_RX11_311 : jq_vl RX11 311 yX11_openNow cX11_openNow 3 (some .int) 0 := ⟨jq_in 1926 (by decide +kernel) rfl, yf_X11_openNow⟩
theorem yf_X11_isPlace : Cond.instanceMethod yX11_isPlace ∈ jq_T ∧ Cond.selects (yX11_isPlace).cls yX11_isPlace yX11_isPlace ∈ jq_T ∧ Cond.initialized (yX11_isPlace).cls ∈ jq_T ∧ Cond.code yX11_isPlace cX11_isPlace 2 (some .boolean) ∈ jq_T ∧ ((yX11_isPlace).cls ≠ "java/lang/invoke/MethodHandle" ∧ (yX11_isPlace).cls ≠ "java/lang/invoke/VarHandle" ∧ (parseMethodDescriptor (yX11_isPlace).desc).map (fun d => d.parameters.length) = some 1) := ⟨jq_in 1940 (by decide +kernel) rfl, jq_in 85 (by decide +kernel) rfl, jq_in 150 (by decide +kernel) rfl, jq_in 1941 (by decide +kernel) rfl, ⟨by decide, by decide, by decide +kernel⟩⟩
theorem ml_RX11_314 : jq_vl RX11 314 yX11_isPlace cX11_isPlace 2 (some .boolean) 1 := ⟨jq_in 1938 (by decide +kernel) rfl, yf_X11_isPlace⟩
theorem yf_X11_sitsAt : Cond.instanceMethod yX11_sitsAt ∈ jq_T ∧ Cond.selects (yX11_sitsAt).cls yX11_sitsAt yX11_sitsAt ∈ jq_T ∧ Cond.initialized (yX11_sitsAt).cls ∈ jq_T ∧ Cond.code yX11_sitsAt cX11_sitsAt 3 (some .int) ∈ jq_T ∧ ((yX11_sitsAt).cls ≠ "java/lang/invoke/MethodHandle" ∧ (yX11_sitsAt).cls ≠ "java/lang/invoke/VarHandle" ∧ (parseMethodDescriptor (yX11_sitsAt).desc).map (fun d => d.parameters.length) = some 1) := ⟨jq_in 1944 (by decide +kernel) rfl, jq_in 86 (by decide +kernel) rfl, jq_in 150 (by decide +kernel) rfl, jq_in 1945 (by decide +kernel) rfl, ⟨by decide, by decide, by decide +kernel⟩⟩
theorem ml_RX11_317 : jq_vl RX11 317 yX11_sitsAt cX11_sitsAt 3 (some .int) 1 := ⟨jq_in 1942 (by decide +kernel) rfl, yf_X11_sitsAt⟩
theorem yf_X11_orNone : Cond.instanceMethod yX11_orNone ∈ jq_T ∧ Cond.selects (yX11_orNone).cls yX11_orNone yX11_orNone ∈ jq_T ∧ Cond.initialized (yX11_orNone).cls ∈ jq_T ∧ Cond.code yX11_orNone cX11_orNone 2 (some .int) ∈ jq_T ∧ ((yX11_orNone).cls ≠ "java/lang/invoke/MethodHandle" ∧ (yX11_orNone).cls ≠ "java/lang/invoke/VarHandle" ∧ (parseMethodDescriptor (yX11_orNone).desc).map (fun d => d.parameters.length) = some 1) := ⟨jq_in 1948 (by decide +kernel) rfl, jq_in 87 (by decide +kernel) rfl, jq_in 150 (by decide +kernel) rfl, jq_in 1949 (by decide +kernel) rfl, ⟨by decide, by decide, by decide +kernel⟩⟩
theorem ml_RX11_320 : jq_vl RX11 320 yX11_orNone cX11_orNone 2 (some .int) 1 := ⟨jq_in 1946 (by decide +kernel) rfl, yf_X11_orNone⟩
theorem yf_X11_isArticle : Cond.instanceMethod yX11_isArticle ∈ jq_T ∧ Cond.selects (yX11_isArticle).cls yX11_isArticle yX11_isArticle ∈ jq_T ∧ Cond.initialized (yX11_isArticle).cls ∈ jq_T ∧ Cond.code yX11_isArticle cX11_isArticle 2 (some .boolean) ∈ jq_T ∧ ((yX11_isArticle).cls ≠ "java/lang/invoke/MethodHandle" ∧ (yX11_isArticle).cls ≠ "java/lang/invoke/VarHandle" ∧ (parseMethodDescriptor (yX11_isArticle).desc).map (fun d => d.parameters.length) = some 1) := ⟨jq_in 1972 (by decide +kernel) rfl, jq_in 89 (by decide +kernel) rfl, jq_in 150 (by decide +kernel) rfl, jq_in 1973 (by decide +kernel) rfl, ⟨by decide, by decide, by decide +kernel⟩⟩
theorem ml_RX11_323 : jq_vl RX11 323 yX11_isArticle cX11_isArticle 2 (some .boolean) 1 := ⟨jq_in 1970 (by decide +kernel) rfl, yf_X11_isArticle⟩
theorem yf_X11_areTwo : Cond.instanceMethod yX11_areTwo ∈ jq_T ∧ Cond.selects (yX11_areTwo).cls yX11_areTwo yX11_areTwo ∈ jq_T ∧ Cond.initialized (yX11_areTwo).cls ∈ jq_T ∧ Cond.code yX11_areTwo cX11_areTwo 3 (some .boolean) ∈ jq_T ∧ ((yX11_areTwo).cls ≠ "java/lang/invoke/MethodHandle" ∧ (yX11_areTwo).cls ≠ "java/lang/invoke/VarHandle" ∧ (parseMethodDescriptor (yX11_areTwo).desc).map (fun d => d.parameters.length) = some 2) := ⟨jq_in 1980 (by decide +kernel) rfl, jq_in 90 (by decide +kernel) rfl, jq_in 150 (by decide +kernel) rfl, jq_in 1981 (by decide +kernel) rfl, ⟨by decide, by decide, by decide +kernel⟩⟩
theorem ml_RX11_326 : jq_vl RX11 326 yX11_areTwo cX11_areTwo 3 (some .boolean) 2 := ⟨jq_in 1978 (by decide +kernel) rfl, yf_X11_areTwo⟩
theorem yf_X11_bothSit : Cond.instanceMethod yX11_bothSit ∈ jq_T ∧ Cond.selects (yX11_bothSit).cls yX11_bothSit yX11_bothSit ∈ jq_T ∧ Cond.initialized (yX11_bothSit).cls ∈ jq_T ∧ Cond.code yX11_bothSit cX11_bothSit 3 (some .boolean) ∈ jq_T ∧ ((yX11_bothSit).cls ≠ "java/lang/invoke/MethodHandle" ∧ (yX11_bothSit).cls ≠ "java/lang/invoke/VarHandle" ∧ (parseMethodDescriptor (yX11_bothSit).desc).map (fun d => d.parameters.length) = some 2) := ⟨jq_in 1984 (by decide +kernel) rfl, jq_in 91 (by decide +kernel) rfl, jq_in 150 (by decide +kernel) rfl, jq_in 1985 (by decide +kernel) rfl, ⟨by decide, by decide, by decide +kernel⟩⟩
theorem ml_RX11_329 : jq_vl RX11 329 yX11_bothSit cX11_bothSit 3 (some .boolean) 2 := ⟨jq_in 1982 (by decide +kernel) rfl, yf_X11_bothSit⟩
theorem yf_X11_worthOfAll : Cond.instanceMethod yX11_worthOfAll ∈ jq_T ∧ Cond.selects (yX11_worthOfAll).cls yX11_worthOfAll yX11_worthOfAll ∈ jq_T ∧ Cond.initialized (yX11_worthOfAll).cls ∈ jq_T ∧ Cond.code yX11_worthOfAll cX11_worthOfAll 3 (some .int) ∈ jq_T ∧ ((yX11_worthOfAll).cls ≠ "java/lang/invoke/MethodHandle" ∧ (yX11_worthOfAll).cls ≠ "java/lang/invoke/VarHandle" ∧ (parseMethodDescriptor (yX11_worthOfAll).desc).map (fun d => d.parameters.length) = some 0) := ⟨jq_in 2000 (by decide +kernel) rfl, jq_in 92 (by decide +kernel) rfl, jq_in 150 (by decide +kernel) rfl, jq_in 2001 (by decide +kernel) rfl, ⟨by decide, by decide, by decide +kernel⟩⟩
theorem ml_RX11_332 : jq_vl RX11 332 yX11_worthOfAll cX11_worthOfAll 3 (some .int) 0 := ⟨jq_in 1998 (by decide +kernel) rfl, yf_X11_worthOfAll⟩
theorem dX11_worthOfAll_0 : decode cX11_worthOfAll 0 = .ok (.iconst 0, 1) := by decide +kernel
theorem dX11_worthOfAll_1 : decode cX11_worthOfAll 1 = .ok (.istore_n 1, 1) := by decide +kernel
theorem dX11_worthOfAll_2 : decode cX11_worthOfAll 2 = .ok (.iconst 0, 1) := by decide +kernel
theorem dX11_worthOfAll_3 : decode cX11_worthOfAll 3 = .ok (.istore_n 2, 1) := by decide +kernel
theorem dX11_worthOfAll_4 : decode cX11_worthOfAll 4 = .ok (.iload_n 2, 1) := by decide +kernel
theorem dX11_worthOfAll_5 : decode cX11_worthOfAll 5 = .ok (.aload_n 0, 1) := by decide +kernel
theorem dX11_worthOfAll_6 : decode cX11_worthOfAll 6 = .ok (.getfield 7, 3) := by decide +kernel
theorem dX11_worthOfAll_9 : decode cX11_worthOfAll 9 = .ok (.iconst 2, 1) := by decide +kernel
theorem dX11_worthOfAll_10 : decode cX11_worthOfAll 10 = .ok (.iaload, 1) := by decide +kernel
theorem dX11_worthOfAll_11 : decode cX11_worthOfAll 11 = .ok (.if_icmp .ge 35, 3) := by decide +kernel
theorem dX11_worthOfAll_14 : decode cX11_worthOfAll 14 = .ok (.iload_n 1, 1) := by decide +kernel
theorem dX11_worthOfAll_15 : decode cX11_worthOfAll 15 = .ok (.aload_n 0, 1) := by decide +kernel
theorem dX11_worthOfAll_16 : decode cX11_worthOfAll 16 = .ok (.iload_n 2, 1) := by decide +kernel
theorem dX11_worthOfAll_17 : decode cX11_worthOfAll 17 = .ok (.invokevirtual 275, 3) := by decide +kernel
theorem dX11_worthOfAll_20 : decode cX11_worthOfAll 20 = .ok (.ifCond .eq 17, 3) := by decide +kernel
theorem dX11_worthOfAll_23 : decode cX11_worthOfAll 23 = .ok (.aload_n 0, 1) := by decide +kernel
theorem dX11_worthOfAll_24 : decode cX11_worthOfAll 24 = .ok (.getfield 7, 3) := by decide +kernel
theorem dX11_worthOfAll_27 : decode cX11_worthOfAll 27 = .ok (.iload_n 2, 1) := by decide +kernel
theorem dX11_worthOfAll_28 : decode cX11_worthOfAll 28 = .ok (.invokestatic 263, 3) := by decide +kernel
theorem dX11_worthOfAll_31 : decode cX11_worthOfAll 31 = .ok (.iconst 3, 1) := by decide +kernel
theorem dX11_worthOfAll_32 : decode cX11_worthOfAll 32 = .ok (.iadd, 1) := by decide +kernel
theorem dX11_worthOfAll_33 : decode cX11_worthOfAll 33 = .ok (.iaload, 1) := by decide +kernel
theorem dX11_worthOfAll_34 : decode cX11_worthOfAll 34 = .ok (.goto 4, 3) := by decide +kernel
theorem dX11_worthOfAll_37 : decode cX11_worthOfAll 37 = .ok (.iconst 0, 1) := by decide +kernel
theorem dX11_worthOfAll_38 : decode cX11_worthOfAll 38 = .ok (.iadd, 1) := by decide +kernel
theorem dX11_worthOfAll_39 : decode cX11_worthOfAll 39 = .ok (.istore_n 1, 1) := by decide +kernel
theorem dX11_worthOfAll_40 : decode cX11_worthOfAll 40 = .ok (.iinc 2 1, 3) := by decide +kernel
theorem dX11_worthOfAll_43 : decode cX11_worthOfAll 43 = .ok (.goto (-39), 3) := by decide +kernel
theorem dX11_worthOfAll_46 : decode cX11_worthOfAll 46 = .ok (.iload_n 1, 1) := by decide +kernel
theorem dX11_worthOfAll_47 : decode cX11_worthOfAll 47 = .ok (.ireturn, 1) := by decide +kernel
set_option maxHeartbeats 4000000 in
set_option maxRecDepth 100000 in
theorem ctX11_worthOfAll  {σ : jq_M} {res : Int}  (h : X11_worthOfAll σ = some res) : jq_MC jq_zM yX11_worthOfAll cX11_worthOfAll 3 (some .int) 3 87 [jR 0] σ (some (jI res)) σ := by
  refine jq_met (own := RX11) (L0 := [(0, jR 0)]) (by decide) rfl rfl rfl ?_
  intro X Γ hnl hlY hRT
  refine jq_use2 (P := fun r => jq_RT jq_zM X (some .int) (some (jI r)) σ) ?_ h hRT
  intro K0 hK0
  unfold X11_worthOfAll
  refine jq_iconst Γ dX11_worthOfAll_0 rfl ?_
  refine jq_istore_n (L' := [(1, jI 0), (0, jR 0)]) Γ dX11_worthOfAll_1 rfl hnl rfl rfl ?_
  refine jq_iconst Γ dX11_worthOfAll_2 rfl ?_
  refine jq_istore_n (L' := [(2, jI 0), (1, jI 0), (0, jR 0)]) Γ dX11_worthOfAll_3 rfl hnl rfl rfl ?_
  refine jq_sub Γ (L' := [(0, jR 0), (1, jI 0), (2, jI 0)]) [2, 1, 0] rfl ?_
  refine jq_loop2 (C := fun (t1 : Int × Int) => jq_V jq_zM X (jq_zN jq_zM) σ 4 [(0, jR 0), (1, jI t1.1), (2, jI t1.2)] []) (KX := fun (e11 : Int) => jq_V jq_zM X (jq_zN jq_zM) σ 46 [(1, jI e11)] []) ?_ ?_ (0, 0)
  · intro K4_t1 hCt1 hXt1 t1
    unfold X11_worthOfAll_b4
    refine jq_iload_n Γ dX11_worthOfAll_4 rfl 2 rfl ?_
    refine jq_aload_n Γ dX11_worthOfAll_5 rfl 0 rfl (jq_at_0 at_M_0) ?_
    refine jq_getR (v := 1) Γ hlY at_M_0 fl_RX11_7 rfl rfl ly_X11_at dX11_worthOfAll_6 ?_
    refine jq_iconst Γ dX11_worthOfAll_9 rfl ?_
    refine jq_iald Γ at_M_1 rfl dX11_worthOfAll_10 (fun v2 => ?_)
    refine jq_icmp_ge (tgt := 46) Γ dX11_worthOfAll_11 rfl ?_ ?_
    · refine jq_sub Γ (L' := [(1, jI t1.1)]) [1] rfl ?_
      exact jq_done (hXt1 t1.1)
    · refine jq_iload_n Γ dX11_worthOfAll_14 rfl 1 rfl ?_
      refine jq_aload_n Γ dX11_worthOfAll_15 rfl 0 rfl (jq_at_0 at_M_0) ?_
      refine jq_iload_n Γ dX11_worthOfAll_16 rfl 2 rfl ?_
      refine jq_cpZ (jq_virt (avs := [jI t1.2]) (st := [jI t1.1]) Γ hlY rfl ml_RX11_275 rfl at_M_0 rfl rfl rfl rfl rfl dX11_worthOfAll_17) rfl (fun r h => ctX11_isHad h) (fun v3 hz4 => ?_)
      refine jq_if_eq (tgt := 37) Γ dX11_worthOfAll_20 rfl ?_ ?_
      · refine jq_iconst Γ dX11_worthOfAll_37 rfl ?_
        refine jq_iadd Γ dX11_worthOfAll_38 ?_
        refine jq_nmI (fun v5 => ?_)
        refine jq_istore_n (L' := [(1, jI v5), (0, jR 0), (2, jI t1.2)]) Γ dX11_worthOfAll_39 rfl hnl rfl rfl ?_
        refine jq_iincN (L' := fun v6 => [(2, jI v6), (1, jI v5), (0, jR 0)]) Γ dX11_worthOfAll_40 2 rfl hnl rfl (fun _ => rfl) (fun v6 => ?_)
        refine jq_goto Γ (tgt := 4) dX11_worthOfAll_43 rfl ?_
        refine jq_sub Γ (L' := [(0, jR 0), (1, jI v5), (2, jI v6)]) [2, 1, 0] rfl ?_
        exact jq_done (hCt1 (v5, v6))
      · refine jq_aload_n Γ dX11_worthOfAll_23 rfl 0 rfl (jq_at_0 at_M_0) ?_
        refine jq_getR (v := 1) Γ hlY at_M_0 fl_RX11_7 rfl rfl ly_X11_at dX11_worthOfAll_24 ?_
        refine jq_iload_n Γ dX11_worthOfAll_27 rfl 2 rfl ?_
        refine jq_cpI (jq_stat (avs := [jI t1.2]) (st := [jR 1, jI t1.1]) Γ hlY rfl ml_RX11_263 rfl rfl rfl rfl rfl dX11_worthOfAll_28) (fun r h => ctX11_wishRow h) (fun v7 => ?_)
        refine jq_iconst Γ dX11_worthOfAll_31 rfl ?_
        refine jq_iadd Γ dX11_worthOfAll_32 ?_
        refine jq_iald Γ at_M_1 rfl dX11_worthOfAll_33 (fun v8 => ?_)
        refine jq_goto Γ (tgt := 38) dX11_worthOfAll_34 rfl ?_
        refine jq_iadd Γ dX11_worthOfAll_38 ?_
        refine jq_nmI (fun v9 => ?_)
        refine jq_istore_n (L' := [(1, jI v9), (0, jR 0), (2, jI t1.2)]) Γ dX11_worthOfAll_39 rfl hnl rfl rfl ?_
        refine jq_iincN (L' := fun v10 => [(2, jI v10), (1, jI v9), (0, jR 0)]) Γ dX11_worthOfAll_40 2 rfl hnl rfl (fun _ => rfl) (fun v10 => ?_)
        refine jq_goto Γ (tgt := 4) dX11_worthOfAll_43 rfl ?_
        refine jq_sub Γ (L' := [(0, jR 0), (1, jI v9), (2, jI v10)]) [2, 1, 0] rfl ?_
        exact jq_done (hCt1 (v9, v10))
  · intro e11
    refine jq_iload_n Γ dX11_worthOfAll_46 rfl 0 rfl ?_
    exact jq_ireturn Γ dX11_worthOfAll_47 (hK0 _)


theorem dX11_doesSign_0 : decode cX11_doesSign 0 = .ok (.aload_n 0, 1) := by decide +kernel
theorem dX11_doesSign_1 : decode cX11_doesSign 1 = .ok (.iload_n 1, 1) := by decide +kernel
theorem dX11_doesSign_2 : decode cX11_doesSign 2 = .ok (.invokevirtual 278, 3) := by decide +kernel
theorem dX11_doesSign_5 : decode cX11_doesSign 5 = .ok (.aload_n 0, 1) := by decide +kernel
theorem dX11_doesSign_6 : decode cX11_doesSign 6 = .ok (.iload_n 1, 1) := by decide +kernel
theorem dX11_doesSign_7 : decode cX11_doesSign 7 = .ok (.invokevirtual 281, 3) := by decide +kernel
theorem dX11_doesSign_10 : decode cX11_doesSign 10 = .ok (.if_icmp .lt 7, 3) := by decide +kernel
theorem dX11_doesSign_13 : decode cX11_doesSign 13 = .ok (.iconst 1, 1) := by decide +kernel
theorem dX11_doesSign_14 : decode cX11_doesSign 14 = .ok (.goto 4, 3) := by decide +kernel
theorem dX11_doesSign_17 : decode cX11_doesSign 17 = .ok (.iconst 0, 1) := by decide +kernel
theorem dX11_doesSign_18 : decode cX11_doesSign 18 = .ok (.ireturn, 1) := by decide +kernel
set_option maxHeartbeats 4000000 in
set_option maxRecDepth 100000 in
theorem ctX11_doesSign {p1 : Int} {σ : jq_M} {res : Int}  (h : X11_doesSign p1 σ = some res) : jq_MC jq_zM yX11_doesSign cX11_doesSign 2 (some .boolean) 4 110 [jR 0, jI p1] σ (some (jI res)) σ := by
  refine jq_met (own := RX11) (L0 := [(0, jR 0), (1, jI p1)]) (by decide) rfl rfl rfl ?_
  intro X Γ hnl hlY hRT
  refine jq_use2 (P := fun r => jq_RT jq_zM X (some .boolean) (some (jI r)) σ) ?_ h hRT
  intro K0 hK0
  unfold X11_doesSign
  refine jq_aload_n Γ dX11_doesSign_0 rfl 0 rfl (jq_at_0 at_M_0) ?_
  refine jq_iload_n Γ dX11_doesSign_1 rfl 1 rfl ?_
  refine jq_cpI (jq_virt (avs := [jI p1]) (st := []) Γ hlY rfl ml_RX11_278 rfl at_M_0 rfl rfl rfl rfl rfl dX11_doesSign_2) (fun r h => ctX11_worthOf h) (fun v1 => ?_)
  refine jq_aload_n Γ dX11_doesSign_5 rfl 0 rfl (jq_at_0 at_M_0) ?_
  refine jq_iload_n Γ dX11_doesSign_6 rfl 1 rfl ?_
  refine jq_cpI (jq_virt (avs := [jI p1]) (st := [jI v1]) Γ hlY rfl ml_RX11_281 rfl at_M_0 rfl rfl rfl rfl rfl dX11_doesSign_7) (fun r h => ctX11_leastOf h) (fun v2 => ?_)
  refine jq_icmp_lt (tgt := 17) Γ dX11_doesSign_10 rfl ?_ ?_
  · refine jq_iconst Γ dX11_doesSign_17 rfl ?_
    exact jq_zreturn Γ (Or.inl rfl) dX11_doesSign_18 (hK0 _)
  · refine jq_iconst Γ dX11_doesSign_13 rfl ?_
    refine jq_goto Γ (tgt := 18) dX11_doesSign_14 rfl ?_
    exact jq_zreturn Γ (Or.inr rfl) dX11_doesSign_18 (hK0 _)


theorem dX11_signing_0 : decode cX11_signing 0 = .ok (.iconst 0, 1) := by decide +kernel
theorem dX11_signing_1 : decode cX11_signing 1 = .ok (.istore_n 1, 1) := by decide +kernel
theorem dX11_signing_2 : decode cX11_signing 2 = .ok (.iconst 0, 1) := by decide +kernel
theorem dX11_signing_3 : decode cX11_signing 3 = .ok (.istore_n 2, 1) := by decide +kernel
theorem dX11_signing_4 : decode cX11_signing 4 = .ok (.iload_n 2, 1) := by decide +kernel
theorem dX11_signing_5 : decode cX11_signing 5 = .ok (.aload_n 0, 1) := by decide +kernel
theorem dX11_signing_6 : decode cX11_signing 6 = .ok (.getfield 7, 3) := by decide +kernel
theorem dX11_signing_9 : decode cX11_signing 9 = .ok (.iconst 1, 1) := by decide +kernel
theorem dX11_signing_10 : decode cX11_signing 10 = .ok (.iaload, 1) := by decide +kernel
theorem dX11_signing_11 : decode cX11_signing 11 = .ok (.if_icmp .ge 27, 3) := by decide +kernel
theorem dX11_signing_14 : decode cX11_signing 14 = .ok (.iload_n 1, 1) := by decide +kernel
theorem dX11_signing_15 : decode cX11_signing 15 = .ok (.aload_n 0, 1) := by decide +kernel
theorem dX11_signing_16 : decode cX11_signing 16 = .ok (.iload_n 2, 1) := by decide +kernel
theorem dX11_signing_17 : decode cX11_signing 17 = .ok (.invokevirtual 284, 3) := by decide +kernel
theorem dX11_signing_20 : decode cX11_signing 20 = .ok (.ifCond .eq 9, 3) := by decide +kernel
theorem dX11_signing_23 : decode cX11_signing 23 = .ok (.iconst 1, 1) := by decide +kernel
theorem dX11_signing_24 : decode cX11_signing 24 = .ok (.iload_n 2, 1) := by decide +kernel
theorem dX11_signing_25 : decode cX11_signing 25 = .ok (.ishl, 1) := by decide +kernel
theorem dX11_signing_26 : decode cX11_signing 26 = .ok (.goto 4, 3) := by decide +kernel
theorem dX11_signing_29 : decode cX11_signing 29 = .ok (.iconst 0, 1) := by decide +kernel
theorem dX11_signing_30 : decode cX11_signing 30 = .ok (.ior, 1) := by decide +kernel
theorem dX11_signing_31 : decode cX11_signing 31 = .ok (.istore_n 1, 1) := by decide +kernel
theorem dX11_signing_32 : decode cX11_signing 32 = .ok (.iinc 2 1, 3) := by decide +kernel
theorem dX11_signing_35 : decode cX11_signing 35 = .ok (.goto (-31), 3) := by decide +kernel
theorem dX11_signing_38 : decode cX11_signing 38 = .ok (.iload_n 1, 1) := by decide +kernel
theorem dX11_signing_39 : decode cX11_signing 39 = .ok (.ireturn, 1) := by decide +kernel
set_option maxHeartbeats 4000000 in
set_option maxRecDepth 100000 in
theorem ctX11_signing  {σ : jq_M} {res : Int}  (h : X11_signing σ = some res) : jq_MC jq_zM yX11_signing cX11_signing 3 (some .int) 5 131 [jR 0] σ (some (jI res)) σ := by
  refine jq_met (own := RX11) (L0 := [(0, jR 0)]) (by decide) rfl rfl rfl ?_
  intro X Γ hnl hlY hRT
  refine jq_use2 (P := fun r => jq_RT jq_zM X (some .int) (some (jI r)) σ) ?_ h hRT
  intro K0 hK0
  unfold X11_signing
  refine jq_iconst Γ dX11_signing_0 rfl ?_
  refine jq_istore_n (L' := [(1, jI 0), (0, jR 0)]) Γ dX11_signing_1 rfl hnl rfl rfl ?_
  refine jq_iconst Γ dX11_signing_2 rfl ?_
  refine jq_istore_n (L' := [(2, jI 0), (1, jI 0), (0, jR 0)]) Γ dX11_signing_3 rfl hnl rfl rfl ?_
  refine jq_sub Γ (L' := [(0, jR 0), (1, jI 0), (2, jI 0)]) [2, 1, 0] rfl ?_
  refine jq_loop2 (C := fun (t1 : Int × Int) => jq_V jq_zM X (jq_zN jq_zM) σ 4 [(0, jR 0), (1, jI t1.1), (2, jI t1.2)] []) (KX := fun (e9 : Int) => jq_V jq_zM X (jq_zN jq_zM) σ 38 [(1, jI e9)] []) ?_ ?_ (0, 0)
  · intro K4_t1 hCt1 hXt1 t1
    unfold X11_signing_b4
    refine jq_iload_n Γ dX11_signing_4 rfl 2 rfl ?_
    refine jq_aload_n Γ dX11_signing_5 rfl 0 rfl (jq_at_0 at_M_0) ?_
    refine jq_getR (v := 1) Γ hlY at_M_0 fl_RX11_7 rfl rfl ly_X11_at dX11_signing_6 ?_
    refine jq_iconst Γ dX11_signing_9 rfl ?_
    refine jq_iald Γ at_M_1 rfl dX11_signing_10 (fun v2 => ?_)
    refine jq_icmp_ge (tgt := 38) Γ dX11_signing_11 rfl ?_ ?_
    · refine jq_sub Γ (L' := [(1, jI t1.1)]) [1] rfl ?_
      exact jq_done (hXt1 t1.1)
    · refine jq_iload_n Γ dX11_signing_14 rfl 1 rfl ?_
      refine jq_aload_n Γ dX11_signing_15 rfl 0 rfl (jq_at_0 at_M_0) ?_
      refine jq_iload_n Γ dX11_signing_16 rfl 2 rfl ?_
      refine jq_cpZ (jq_virt (avs := [jI t1.2]) (st := [jI t1.1]) Γ hlY rfl ml_RX11_284 rfl at_M_0 rfl rfl rfl rfl rfl dX11_signing_17) rfl (fun r h => ctX11_doesSign h) (fun v3 hz4 => ?_)
      refine jq_if_eq (tgt := 29) Γ dX11_signing_20 rfl ?_ ?_
      · refine jq_iconst Γ dX11_signing_29 rfl ?_
        refine jq_ior Γ dX11_signing_30 ?_
        refine jq_nmI (fun v5 => ?_)
        refine jq_istore_n (L' := [(1, jI v5), (0, jR 0), (2, jI t1.2)]) Γ dX11_signing_31 rfl hnl rfl rfl ?_
        refine jq_iincN (L' := fun v6 => [(2, jI v6), (1, jI v5), (0, jR 0)]) Γ dX11_signing_32 2 rfl hnl rfl (fun _ => rfl) (fun v6 => ?_)
        refine jq_goto Γ (tgt := 4) dX11_signing_35 rfl ?_
        refine jq_sub Γ (L' := [(0, jR 0), (1, jI v5), (2, jI v6)]) [2, 1, 0] rfl ?_
        exact jq_done (hCt1 (v5, v6))
      · refine jq_iconst Γ dX11_signing_23 rfl ?_
        refine jq_iload_n Γ dX11_signing_24 rfl 2 rfl ?_
        refine jq_ishl Γ dX11_signing_25 ?_
        refine jq_goto Γ (tgt := 30) dX11_signing_26 rfl ?_
        refine jq_ior Γ dX11_signing_30 ?_
        refine jq_nmI (fun v7 => ?_)
        refine jq_istore_n (L' := [(1, jI v7), (0, jR 0), (2, jI t1.2)]) Γ dX11_signing_31 rfl hnl rfl rfl ?_
        refine jq_iincN (L' := fun v8 => [(2, jI v8), (1, jI v7), (0, jR 0)]) Γ dX11_signing_32 2 rfl hnl rfl (fun _ => rfl) (fun v8 => ?_)
        refine jq_goto Γ (tgt := 4) dX11_signing_35 rfl ?_
        refine jq_sub Γ (L' := [(0, jR 0), (1, jI v7), (2, jI v8)]) [2, 1, 0] rfl ?_
        exact jq_done (hCt1 (v7, v8))
  · intro e9
    refine jq_iload_n Γ dX11_signing_38 rfl 0 rfl ?_
    exact jq_ireturn Γ dX11_signing_39 (hK0 _)


theorem dX11_everybody_0 : decode cX11_everybody 0 = .ok (.iconst 1, 1) := by decide +kernel
theorem dX11_everybody_1 : decode cX11_everybody 1 = .ok (.aload_n 0, 1) := by decide +kernel
theorem dX11_everybody_2 : decode cX11_everybody 2 = .ok (.getfield 7, 3) := by decide +kernel
theorem dX11_everybody_5 : decode cX11_everybody 5 = .ok (.iconst 1, 1) := by decide +kernel
theorem dX11_everybody_6 : decode cX11_everybody 6 = .ok (.iaload, 1) := by decide +kernel
theorem dX11_everybody_7 : decode cX11_everybody 7 = .ok (.ishl, 1) := by decide +kernel
theorem dX11_everybody_8 : decode cX11_everybody 8 = .ok (.iconst 1, 1) := by decide +kernel
theorem dX11_everybody_9 : decode cX11_everybody 9 = .ok (.isub, 1) := by decide +kernel
theorem dX11_everybody_10 : decode cX11_everybody 10 = .ok (.ireturn, 1) := by decide +kernel
set_option maxHeartbeats 4000000 in
set_option maxRecDepth 100000 in
theorem ctX11_everybody  {σ : jq_M} {res : Int}  (h : X11_everybody σ = some res) : jq_MC jq_zM yX11_everybody cX11_everybody 1 (some .int) 1 40 [jR 0] σ (some (jI res)) σ := by
  refine jq_met (own := RX11) (L0 := [(0, jR 0)]) (by decide) rfl rfl rfl ?_
  intro X Γ hnl hlY hRT
  refine jq_use2 (P := fun r => jq_RT jq_zM X (some .int) (some (jI r)) σ) ?_ h hRT
  intro K0 hK0
  unfold X11_everybody
  refine jq_iconst Γ dX11_everybody_0 rfl ?_
  refine jq_aload_n Γ dX11_everybody_1 rfl 0 rfl (jq_at_0 at_M_0) ?_
  refine jq_getR (v := 1) Γ hlY at_M_0 fl_RX11_7 rfl rfl ly_X11_at dX11_everybody_2 ?_
  refine jq_iconst Γ dX11_everybody_5 rfl ?_
  refine jq_iald Γ at_M_1 rfl dX11_everybody_6 (fun v1 => ?_)
  refine jq_ishl Γ dX11_everybody_7 ?_
  refine jq_iconst Γ dX11_everybody_8 rfl ?_
  refine jq_isub Γ dX11_everybody_9 ?_
  exact jq_ireturn Γ dX11_everybody_10 (hK0 _)


theorem dX11_fishing_0 : decode cX11_fishing 0 = .ok (.iconst 0, 1) := by decide +kernel
theorem dX11_fishing_1 : decode cX11_fishing 1 = .ok (.istore_n 1, 1) := by decide +kernel
theorem dX11_fishing_2 : decode cX11_fishing 2 = .ok (.iconst 0, 1) := by decide +kernel
theorem dX11_fishing_3 : decode cX11_fishing 3 = .ok (.istore_n 2, 1) := by decide +kernel
theorem dX11_fishing_4 : decode cX11_fishing 4 = .ok (.iload_n 2, 1) := by decide +kernel
theorem dX11_fishing_5 : decode cX11_fishing 5 = .ok (.aload_n 0, 1) := by decide +kernel
theorem dX11_fishing_6 : decode cX11_fishing 6 = .ok (.getfield 7, 3) := by decide +kernel
theorem dX11_fishing_9 : decode cX11_fishing 9 = .ok (.iconst 1, 1) := by decide +kernel
theorem dX11_fishing_10 : decode cX11_fishing 10 = .ok (.iaload, 1) := by decide +kernel
theorem dX11_fishing_11 : decode cX11_fishing 11 = .ok (.if_icmp .ge 27, 3) := by decide +kernel
theorem dX11_fishing_14 : decode cX11_fishing 14 = .ok (.iload_n 1, 1) := by decide +kernel
theorem dX11_fishing_15 : decode cX11_fishing 15 = .ok (.iconst 0, 1) := by decide +kernel
theorem dX11_fishing_16 : decode cX11_fishing 16 = .ok (.aload_n 0, 1) := by decide +kernel
theorem dX11_fishing_17 : decode cX11_fishing 17 = .ok (.iload_n 2, 1) := by decide +kernel
theorem dX11_fishing_18 : decode cX11_fishing 18 = .ok (.invokevirtual 281, 3) := by decide +kernel
theorem dX11_fishing_21 : decode cX11_fishing 21 = .ok (.aload_n 0, 1) := by decide +kernel
theorem dX11_fishing_22 : decode cX11_fishing 22 = .ok (.iload_n 2, 1) := by decide +kernel
theorem dX11_fishing_23 : decode cX11_fishing 23 = .ok (.invokevirtual 278, 3) := by decide +kernel
theorem dX11_fishing_26 : decode cX11_fishing 26 = .ok (.isub, 1) := by decide +kernel
theorem dX11_fishing_27 : decode cX11_fishing 27 = .ok (.invokestatic 287, 3) := by decide +kernel
theorem dX11_fishing_30 : decode cX11_fishing 30 = .ok (.iadd, 1) := by decide +kernel
theorem dX11_fishing_31 : decode cX11_fishing 31 = .ok (.istore_n 1, 1) := by decide +kernel
theorem dX11_fishing_32 : decode cX11_fishing 32 = .ok (.iinc 2 1, 3) := by decide +kernel
theorem dX11_fishing_35 : decode cX11_fishing 35 = .ok (.goto (-31), 3) := by decide +kernel
theorem dX11_fishing_38 : decode cX11_fishing 38 = .ok (.iload_n 1, 1) := by decide +kernel
theorem dX11_fishing_39 : decode cX11_fishing 39 = .ok (.ireturn, 1) := by decide +kernel
set_option maxHeartbeats 4000000 in
set_option maxRecDepth 100000 in
theorem ctX11_fishing  {σ : jq_M} {res : Int}  (h : X11_fishing σ = some res) : jq_MC jq_zM yX11_fishing cX11_fishing 3 (some .int) 4 110 [jR 0] σ (some (jI res)) σ := by
  refine jq_met (own := RX11) (L0 := [(0, jR 0)]) (by decide) rfl rfl rfl ?_
  intro X Γ hnl hlY hRT
  refine jq_use2 (P := fun r => jq_RT jq_zM X (some .int) (some (jI r)) σ) ?_ h hRT
  intro K0 hK0
  unfold X11_fishing
  refine jq_iconst Γ dX11_fishing_0 rfl ?_
  refine jq_istore_n (L' := [(1, jI 0), (0, jR 0)]) Γ dX11_fishing_1 rfl hnl rfl rfl ?_
  refine jq_iconst Γ dX11_fishing_2 rfl ?_
  refine jq_istore_n (L' := [(2, jI 0), (1, jI 0), (0, jR 0)]) Γ dX11_fishing_3 rfl hnl rfl rfl ?_
  refine jq_sub Γ (L' := [(0, jR 0), (1, jI 0), (2, jI 0)]) [2, 1, 0] rfl ?_
  refine jq_loop2 (C := fun (t1 : Int × Int) => jq_V jq_zM X (jq_zN jq_zM) σ 4 [(0, jR 0), (1, jI t1.1), (2, jI t1.2)] []) (KX := fun (e7 : Int) => jq_V jq_zM X (jq_zN jq_zM) σ 38 [(1, jI e7)] []) ?_ ?_ (0, 0)
  · intro K4_t1 hCt1 hXt1 t1
    unfold X11_fishing_b4
    refine jq_iload_n Γ dX11_fishing_4 rfl 2 rfl ?_
    refine jq_aload_n Γ dX11_fishing_5 rfl 0 rfl (jq_at_0 at_M_0) ?_
    refine jq_getR (v := 1) Γ hlY at_M_0 fl_RX11_7 rfl rfl ly_X11_at dX11_fishing_6 ?_
    refine jq_iconst Γ dX11_fishing_9 rfl ?_
    refine jq_iald Γ at_M_1 rfl dX11_fishing_10 (fun v2 => ?_)
    refine jq_icmp_ge (tgt := 38) Γ dX11_fishing_11 rfl ?_ ?_
    · refine jq_sub Γ (L' := [(1, jI t1.1)]) [1] rfl ?_
      exact jq_done (hXt1 t1.1)
    · refine jq_iload_n Γ dX11_fishing_14 rfl 1 rfl ?_
      refine jq_iconst Γ dX11_fishing_15 rfl ?_
      refine jq_aload_n Γ dX11_fishing_16 rfl 0 rfl (jq_at_0 at_M_0) ?_
      refine jq_iload_n Γ dX11_fishing_17 rfl 2 rfl ?_
      refine jq_cpI (jq_virt (avs := [jI t1.2]) (st := [jI 0, jI t1.1]) Γ hlY rfl ml_RX11_281 rfl at_M_0 rfl rfl rfl rfl rfl dX11_fishing_18) (fun r h => ctX11_leastOf h) (fun v3 => ?_)
      refine jq_aload_n Γ dX11_fishing_21 rfl 0 rfl (jq_at_0 at_M_0) ?_
      refine jq_iload_n Γ dX11_fishing_22 rfl 2 rfl ?_
      refine jq_cpI (jq_virt (avs := [jI t1.2]) (st := [jI v3, jI 0, jI t1.1]) Γ hlY rfl ml_RX11_278 rfl at_M_0 rfl rfl rfl rfl rfl dX11_fishing_23) (fun r h => ctX11_worthOf h) (fun v4 => ?_)
      refine jq_isub Γ dX11_fishing_26 ?_
      refine jq_mmax Γ mw_RX11_287 mws_max mwi mwc_max rfl rfl dX11_fishing_27 ?_
      refine jq_iadd Γ dX11_fishing_30 ?_
      refine jq_nmI (fun v5 => ?_)
      refine jq_istore_n (L' := [(1, jI v5), (0, jR 0), (2, jI t1.2)]) Γ dX11_fishing_31 rfl hnl rfl rfl ?_
      refine jq_iincN (L' := fun v6 => [(2, jI v6), (1, jI v5), (0, jR 0)]) Γ dX11_fishing_32 2 rfl hnl rfl (fun _ => rfl) (fun v6 => ?_)
      refine jq_goto Γ (tgt := 4) dX11_fishing_35 rfl ?_
      refine jq_sub Γ (L' := [(0, jR 0), (1, jI v5), (2, jI v6)]) [2, 1, 0] rfl ?_
      exact jq_done (hCt1 (v5, v6))
  · intro e7
    refine jq_iload_n Γ dX11_fishing_38 rfl 0 rfl ?_
    exact jq_ireturn Γ dX11_fishing_39 (hK0 _)


theorem dX11_isAgreed_0 : decode cX11_isAgreed 0 = .ok (.aload_n 0, 1) := by decide +kernel
theorem dX11_isAgreed_1 : decode cX11_isAgreed 1 = .ok (.getfield 7, 3) := by decide +kernel
theorem dX11_isAgreed_4 : decode cX11_isAgreed 4 = .ok (.iload_n 1, 1) := by decide +kernel
theorem dX11_isAgreed_5 : decode cX11_isAgreed 5 = .ok (.invokestatic 290, 3) := by decide +kernel
theorem dX11_isAgreed_8 : decode cX11_isAgreed 8 = .ok (.iconst 4, 1) := by decide +kernel
theorem dX11_isAgreed_9 : decode cX11_isAgreed 9 = .ok (.iadd, 1) := by decide +kernel
theorem dX11_isAgreed_10 : decode cX11_isAgreed 10 = .ok (.iaload, 1) := by decide +kernel
theorem dX11_isAgreed_11 : decode cX11_isAgreed 11 = .ok (.iconst 1, 1) := by decide +kernel
theorem dX11_isAgreed_12 : decode cX11_isAgreed 12 = .ok (.if_icmp .ne 7, 3) := by decide +kernel
theorem dX11_isAgreed_15 : decode cX11_isAgreed 15 = .ok (.iconst 1, 1) := by decide +kernel
theorem dX11_isAgreed_16 : decode cX11_isAgreed 16 = .ok (.goto 4, 3) := by decide +kernel
theorem dX11_isAgreed_19 : decode cX11_isAgreed 19 = .ok (.iconst 0, 1) := by decide +kernel
theorem dX11_isAgreed_20 : decode cX11_isAgreed 20 = .ok (.ireturn, 1) := by decide +kernel
set_option maxHeartbeats 4000000 in
set_option maxRecDepth 100000 in
theorem ctX11_isAgreed {p1 : Int} {σ : jq_M} {res : Int}  (h : X11_isAgreed p1 σ = some res) : jq_MC jq_zM yX11_isAgreed cX11_isAgreed 2 (some .boolean) 2 60 [jR 0, jI p1] σ (some (jI res)) σ := by
  refine jq_met (own := RX11) (L0 := [(0, jR 0), (1, jI p1)]) (by decide) rfl rfl rfl ?_
  intro X Γ hnl hlY hRT
  refine jq_use2 (P := fun r => jq_RT jq_zM X (some .boolean) (some (jI r)) σ) ?_ h hRT
  intro K0 hK0
  unfold X11_isAgreed
  refine jq_aload_n Γ dX11_isAgreed_0 rfl 0 rfl (jq_at_0 at_M_0) ?_
  refine jq_getR (v := 1) Γ hlY at_M_0 fl_RX11_7 rfl rfl ly_X11_at dX11_isAgreed_1 ?_
  refine jq_iload_n Γ dX11_isAgreed_4 rfl 1 rfl ?_
  refine jq_cpI (jq_stat (avs := [jI p1]) (st := [jR 1]) Γ hlY rfl ml_RX11_290 rfl rfl rfl rfl rfl dX11_isAgreed_5) (fun r h => ctX11_articleRow h) (fun v1 => ?_)
  refine jq_iconst Γ dX11_isAgreed_8 rfl ?_
  refine jq_iadd Γ dX11_isAgreed_9 ?_
  refine jq_iald Γ at_M_1 rfl dX11_isAgreed_10 (fun v2 => ?_)
  refine jq_iconst Γ dX11_isAgreed_11 rfl ?_
  refine jq_icmp_ne (tgt := 19) Γ dX11_isAgreed_12 rfl ?_ ?_
  · refine jq_iconst Γ dX11_isAgreed_19 rfl ?_
    exact jq_zreturn Γ (Or.inl rfl) dX11_isAgreed_20 (hK0 _)
  · refine jq_iconst Γ dX11_isAgreed_15 rfl ?_
    refine jq_goto Γ (tgt := 20) dX11_isAgreed_16 rfl ?_
    exact jq_zreturn Γ (Or.inr rfl) dX11_isAgreed_20 (hK0 _)


theorem dX11_agreedNow_0 : decode cX11_agreedNow 0 = .ok (.iconst 0, 1) := by decide +kernel
theorem dX11_agreedNow_1 : decode cX11_agreedNow 1 = .ok (.istore_n 1, 1) := by decide +kernel
theorem dX11_agreedNow_2 : decode cX11_agreedNow 2 = .ok (.iconst 0, 1) := by decide +kernel
theorem dX11_agreedNow_3 : decode cX11_agreedNow 3 = .ok (.istore_n 2, 1) := by decide +kernel
theorem dX11_agreedNow_4 : decode cX11_agreedNow 4 = .ok (.iload_n 2, 1) := by decide +kernel
theorem dX11_agreedNow_5 : decode cX11_agreedNow 5 = .ok (.aload_n 0, 1) := by decide +kernel
theorem dX11_agreedNow_6 : decode cX11_agreedNow 6 = .ok (.getfield 7, 3) := by decide +kernel
theorem dX11_agreedNow_9 : decode cX11_agreedNow 9 = .ok (.iconst 3, 1) := by decide +kernel
theorem dX11_agreedNow_10 : decode cX11_agreedNow 10 = .ok (.iaload, 1) := by decide +kernel
theorem dX11_agreedNow_11 : decode cX11_agreedNow 11 = .ok (.if_icmp .ge 27, 3) := by decide +kernel
theorem dX11_agreedNow_14 : decode cX11_agreedNow 14 = .ok (.iload_n 1, 1) := by decide +kernel
theorem dX11_agreedNow_15 : decode cX11_agreedNow 15 = .ok (.aload_n 0, 1) := by decide +kernel
theorem dX11_agreedNow_16 : decode cX11_agreedNow 16 = .ok (.iload_n 2, 1) := by decide +kernel
theorem dX11_agreedNow_17 : decode cX11_agreedNow 17 = .ok (.invokevirtual 293, 3) := by decide +kernel
theorem dX11_agreedNow_20 : decode cX11_agreedNow 20 = .ok (.ifCond .eq 9, 3) := by decide +kernel
theorem dX11_agreedNow_23 : decode cX11_agreedNow 23 = .ok (.iconst 1, 1) := by decide +kernel
theorem dX11_agreedNow_24 : decode cX11_agreedNow 24 = .ok (.iload_n 2, 1) := by decide +kernel
theorem dX11_agreedNow_25 : decode cX11_agreedNow 25 = .ok (.ishl, 1) := by decide +kernel
theorem dX11_agreedNow_26 : decode cX11_agreedNow 26 = .ok (.goto 4, 3) := by decide +kernel
theorem dX11_agreedNow_29 : decode cX11_agreedNow 29 = .ok (.iconst 0, 1) := by decide +kernel
theorem dX11_agreedNow_30 : decode cX11_agreedNow 30 = .ok (.ior, 1) := by decide +kernel
theorem dX11_agreedNow_31 : decode cX11_agreedNow 31 = .ok (.istore_n 1, 1) := by decide +kernel
theorem dX11_agreedNow_32 : decode cX11_agreedNow 32 = .ok (.iinc 2 1, 3) := by decide +kernel
theorem dX11_agreedNow_35 : decode cX11_agreedNow 35 = .ok (.goto (-31), 3) := by decide +kernel
theorem dX11_agreedNow_38 : decode cX11_agreedNow 38 = .ok (.iload_n 1, 1) := by decide +kernel
theorem dX11_agreedNow_39 : decode cX11_agreedNow 39 = .ok (.ireturn, 1) := by decide +kernel
set_option maxHeartbeats 4000000 in
set_option maxRecDepth 100000 in
theorem ctX11_agreedNow  {σ : jq_M} {res : Int}  (h : X11_agreedNow σ = some res) : jq_MC jq_zM yX11_agreedNow cX11_agreedNow 3 (some .int) 3 81 [jR 0] σ (some (jI res)) σ := by
  refine jq_met (own := RX11) (L0 := [(0, jR 0)]) (by decide) rfl rfl rfl ?_
  intro X Γ hnl hlY hRT
  refine jq_use2 (P := fun r => jq_RT jq_zM X (some .int) (some (jI r)) σ) ?_ h hRT
  intro K0 hK0
  unfold X11_agreedNow
  refine jq_iconst Γ dX11_agreedNow_0 rfl ?_
  refine jq_istore_n (L' := [(1, jI 0), (0, jR 0)]) Γ dX11_agreedNow_1 rfl hnl rfl rfl ?_
  refine jq_iconst Γ dX11_agreedNow_2 rfl ?_
  refine jq_istore_n (L' := [(2, jI 0), (1, jI 0), (0, jR 0)]) Γ dX11_agreedNow_3 rfl hnl rfl rfl ?_
  refine jq_sub Γ (L' := [(0, jR 0), (1, jI 0), (2, jI 0)]) [2, 1, 0] rfl ?_
  refine jq_loop2 (C := fun (t1 : Int × Int) => jq_V jq_zM X (jq_zN jq_zM) σ 4 [(0, jR 0), (1, jI t1.1), (2, jI t1.2)] []) (KX := fun (e9 : Int) => jq_V jq_zM X (jq_zN jq_zM) σ 38 [(1, jI e9)] []) ?_ ?_ (0, 0)
  · intro K4_t1 hCt1 hXt1 t1
    unfold X11_agreedNow_b4
    refine jq_iload_n Γ dX11_agreedNow_4 rfl 2 rfl ?_
    refine jq_aload_n Γ dX11_agreedNow_5 rfl 0 rfl (jq_at_0 at_M_0) ?_
    refine jq_getR (v := 1) Γ hlY at_M_0 fl_RX11_7 rfl rfl ly_X11_at dX11_agreedNow_6 ?_
    refine jq_iconst Γ dX11_agreedNow_9 rfl ?_
    refine jq_iald Γ at_M_1 rfl dX11_agreedNow_10 (fun v2 => ?_)
    refine jq_icmp_ge (tgt := 38) Γ dX11_agreedNow_11 rfl ?_ ?_
    · refine jq_sub Γ (L' := [(1, jI t1.1)]) [1] rfl ?_
      exact jq_done (hXt1 t1.1)
    · refine jq_iload_n Γ dX11_agreedNow_14 rfl 1 rfl ?_
      refine jq_aload_n Γ dX11_agreedNow_15 rfl 0 rfl (jq_at_0 at_M_0) ?_
      refine jq_iload_n Γ dX11_agreedNow_16 rfl 2 rfl ?_
      refine jq_cpZ (jq_virt (avs := [jI t1.2]) (st := [jI t1.1]) Γ hlY rfl ml_RX11_293 rfl at_M_0 rfl rfl rfl rfl rfl dX11_agreedNow_17) rfl (fun r h => ctX11_isAgreed h) (fun v3 hz4 => ?_)
      refine jq_if_eq (tgt := 29) Γ dX11_agreedNow_20 rfl ?_ ?_
      · refine jq_iconst Γ dX11_agreedNow_29 rfl ?_
        refine jq_ior Γ dX11_agreedNow_30 ?_
        refine jq_nmI (fun v5 => ?_)
        refine jq_istore_n (L' := [(1, jI v5), (0, jR 0), (2, jI t1.2)]) Γ dX11_agreedNow_31 rfl hnl rfl rfl ?_
        refine jq_iincN (L' := fun v6 => [(2, jI v6), (1, jI v5), (0, jR 0)]) Γ dX11_agreedNow_32 2 rfl hnl rfl (fun _ => rfl) (fun v6 => ?_)
        refine jq_goto Γ (tgt := 4) dX11_agreedNow_35 rfl ?_
        refine jq_sub Γ (L' := [(0, jR 0), (1, jI v5), (2, jI v6)]) [2, 1, 0] rfl ?_
        exact jq_done (hCt1 (v5, v6))
      · refine jq_iconst Γ dX11_agreedNow_23 rfl ?_
        refine jq_iload_n Γ dX11_agreedNow_24 rfl 2 rfl ?_
        refine jq_ishl Γ dX11_agreedNow_25 ?_
        refine jq_goto Γ (tgt := 30) dX11_agreedNow_26 rfl ?_
        refine jq_ior Γ dX11_agreedNow_30 ?_
        refine jq_nmI (fun v7 => ?_)
        refine jq_istore_n (L' := [(1, jI v7), (0, jR 0), (2, jI t1.2)]) Γ dX11_agreedNow_31 rfl hnl rfl rfl ?_
        refine jq_iincN (L' := fun v8 => [(2, jI v8), (1, jI v7), (0, jR 0)]) Γ dX11_agreedNow_32 2 rfl hnl rfl (fun _ => rfl) (fun v8 => ?_)
        refine jq_goto Γ (tgt := 4) dX11_agreedNow_35 rfl ?_
        refine jq_sub Γ (L' := [(0, jR 0), (1, jI v7), (2, jI v8)]) [2, 1, 0] rfl ?_
        exact jq_done (hCt1 (v7, v8))
  · intro e9
    refine jq_iload_n Γ dX11_agreedNow_38 rfl 0 rfl ?_
    exact jq_ireturn Γ dX11_agreedNow_39 (hK0 _)


theorem dX11_isOpen_0 : decode cX11_isOpen 0 = .ok (.aload_n 0, 1) := by decide +kernel
theorem dX11_isOpen_1 : decode cX11_isOpen 1 = .ok (.iload_n 1, 1) := by decide +kernel
theorem dX11_isOpen_2 : decode cX11_isOpen 2 = .ok (.invokevirtual 293, 3) := by decide +kernel
theorem dX11_isOpen_5 : decode cX11_isOpen 5 = .ok (.ifCond .ne 28, 3) := by decide +kernel
theorem dX11_isOpen_8 : decode cX11_isOpen 8 = .ok (.aload_n 0, 1) := by decide +kernel
theorem dX11_isOpen_9 : decode cX11_isOpen 9 = .ok (.getfield 7, 3) := by decide +kernel
theorem dX11_isOpen_12 : decode cX11_isOpen 12 = .ok (.iload_n 1, 1) := by decide +kernel
theorem dX11_isOpen_13 : decode cX11_isOpen 13 = .ok (.invokestatic 290, 3) := by decide +kernel
theorem dX11_isOpen_16 : decode cX11_isOpen 16 = .ok (.iconst 2, 1) := by decide +kernel
theorem dX11_isOpen_17 : decode cX11_isOpen 17 = .ok (.iadd, 1) := by decide +kernel
theorem dX11_isOpen_18 : decode cX11_isOpen 18 = .ok (.iaload, 1) := by decide +kernel
theorem dX11_isOpen_19 : decode cX11_isOpen 19 = .ok (.aload_n 0, 1) := by decide +kernel
theorem dX11_isOpen_20 : decode cX11_isOpen 20 = .ok (.invokevirtual 296, 3) := by decide +kernel
theorem dX11_isOpen_23 : decode cX11_isOpen 23 = .ok (.iconst (-1), 1) := by decide +kernel
theorem dX11_isOpen_24 : decode cX11_isOpen 24 = .ok (.ixor, 1) := by decide +kernel
theorem dX11_isOpen_25 : decode cX11_isOpen 25 = .ok (.iand, 1) := by decide +kernel
theorem dX11_isOpen_26 : decode cX11_isOpen 26 = .ok (.ifCond .ne 7, 3) := by decide +kernel
theorem dX11_isOpen_29 : decode cX11_isOpen 29 = .ok (.iconst 1, 1) := by decide +kernel
theorem dX11_isOpen_30 : decode cX11_isOpen 30 = .ok (.goto 4, 3) := by decide +kernel
theorem dX11_isOpen_33 : decode cX11_isOpen 33 = .ok (.iconst 0, 1) := by decide +kernel
theorem dX11_isOpen_34 : decode cX11_isOpen 34 = .ok (.ireturn, 1) := by decide +kernel
set_option maxHeartbeats 4000000 in
set_option maxRecDepth 100000 in
theorem ctX11_isOpen {p1 : Int} {σ : jq_M} {res : Int}  (h : X11_isOpen p1 σ = some res) : jq_MC jq_zM yX11_isOpen cX11_isOpen 2 (some .boolean) 4 103 [jR 0, jI p1] σ (some (jI res)) σ := by
  refine jq_met (own := RX11) (L0 := [(0, jR 0), (1, jI p1)]) (by decide) rfl rfl rfl ?_
  intro X Γ hnl hlY hRT
  refine jq_use2 (P := fun r => jq_RT jq_zM X (some .boolean) (some (jI r)) σ) ?_ h hRT
  intro K0 hK0
  unfold X11_isOpen
  refine jq_aload_n Γ dX11_isOpen_0 rfl 0 rfl (jq_at_0 at_M_0) ?_
  refine jq_iload_n Γ dX11_isOpen_1 rfl 1 rfl ?_
  refine jq_cpZ (jq_virt (avs := [jI p1]) (st := []) Γ hlY rfl ml_RX11_293 rfl at_M_0 rfl rfl rfl rfl rfl dX11_isOpen_2) rfl (fun r h => ctX11_isAgreed h) (fun v1 hz2 => ?_)
  refine jq_if_ne (tgt := 33) Γ dX11_isOpen_5 rfl ?_ ?_
  · refine jq_iconst Γ dX11_isOpen_33 rfl ?_
    exact jq_zreturn Γ (Or.inl rfl) dX11_isOpen_34 (hK0 _)
  · refine jq_aload_n Γ dX11_isOpen_8 rfl 0 rfl (jq_at_0 at_M_0) ?_
    refine jq_getR (v := 1) Γ hlY at_M_0 fl_RX11_7 rfl rfl ly_X11_at dX11_isOpen_9 ?_
    refine jq_iload_n Γ dX11_isOpen_12 rfl 1 rfl ?_
    refine jq_cpI (jq_stat (avs := [jI p1]) (st := [jR 1]) Γ hlY rfl ml_RX11_290 rfl rfl rfl rfl rfl dX11_isOpen_13) (fun r h => ctX11_articleRow h) (fun v3 => ?_)
    refine jq_iconst Γ dX11_isOpen_16 rfl ?_
    refine jq_iadd Γ dX11_isOpen_17 ?_
    refine jq_iald Γ at_M_1 rfl dX11_isOpen_18 (fun v4 => ?_)
    refine jq_aload_n Γ dX11_isOpen_19 rfl 0 rfl (jq_at_0 at_M_0) ?_
    refine jq_cpI (jq_virt (avs := []) (st := [jI v4]) Γ hlY rfl ml_RX11_296 rfl at_M_0 rfl rfl rfl rfl rfl dX11_isOpen_20) (fun r h => ctX11_agreedNow h) (fun v5 => ?_)
    refine jq_iconst Γ dX11_isOpen_23 rfl ?_
    refine jq_ixor Γ dX11_isOpen_24 ?_
    refine jq_iand Γ dX11_isOpen_25 ?_
    refine jq_if_ne (tgt := 33) Γ dX11_isOpen_26 rfl ?_ ?_
    · refine jq_iconst Γ dX11_isOpen_33 rfl ?_
      exact jq_zreturn Γ (Or.inl rfl) dX11_isOpen_34 (hK0 _)
    · refine jq_iconst Γ dX11_isOpen_29 rfl ?_
      refine jq_goto Γ (tgt := 34) dX11_isOpen_30 rfl ?_
      exact jq_zreturn Γ (Or.inr rfl) dX11_isOpen_34 (hK0 _)


theorem dX11_sitting_0 : decode cX11_sitting 0 = .ok (.iconst 0, 1) := by decide +kernel
theorem dX11_sitting_1 : decode cX11_sitting 1 = .ok (.istore_n 1, 1) := by decide +kernel
theorem dX11_sitting_2 : decode cX11_sitting 2 = .ok (.iconst 0, 1) := by decide +kernel
theorem dX11_sitting_3 : decode cX11_sitting 3 = .ok (.istore_n 2, 1) := by decide +kernel
theorem dX11_sitting_4 : decode cX11_sitting 4 = .ok (.iload_n 2, 1) := by decide +kernel
theorem dX11_sitting_5 : decode cX11_sitting 5 = .ok (.aload_n 0, 1) := by decide +kernel
theorem dX11_sitting_6 : decode cX11_sitting 6 = .ok (.getfield 7, 3) := by decide +kernel
theorem dX11_sitting_9 : decode cX11_sitting 9 = .ok (.iconst 1, 1) := by decide +kernel
theorem dX11_sitting_10 : decode cX11_sitting 10 = .ok (.iaload, 1) := by decide +kernel
theorem dX11_sitting_11 : decode cX11_sitting 11 = .ok (.if_icmp .ge 28, 3) := by decide +kernel
theorem dX11_sitting_14 : decode cX11_sitting 14 = .ok (.iload_n 1, 1) := by decide +kernel
theorem dX11_sitting_15 : decode cX11_sitting 15 = .ok (.aload_n 0, 1) := by decide +kernel
theorem dX11_sitting_16 : decode cX11_sitting 16 = .ok (.iload_n 2, 1) := by decide +kernel
theorem dX11_sitting_17 : decode cX11_sitting 17 = .ok (.invokevirtual 257, 3) := by decide +kernel
theorem dX11_sitting_20 : decode cX11_sitting 20 = .ok (.iconst (-1), 1) := by decide +kernel
theorem dX11_sitting_21 : decode cX11_sitting 21 = .ok (.if_icmp .ne 7, 3) := by decide +kernel
theorem dX11_sitting_24 : decode cX11_sitting 24 = .ok (.iconst 0, 1) := by decide +kernel
theorem dX11_sitting_25 : decode cX11_sitting 25 = .ok (.goto 6, 3) := by decide +kernel
theorem dX11_sitting_28 : decode cX11_sitting 28 = .ok (.iconst 1, 1) := by decide +kernel
theorem dX11_sitting_29 : decode cX11_sitting 29 = .ok (.iload_n 2, 1) := by decide +kernel
theorem dX11_sitting_30 : decode cX11_sitting 30 = .ok (.ishl, 1) := by decide +kernel
theorem dX11_sitting_31 : decode cX11_sitting 31 = .ok (.ior, 1) := by decide +kernel
theorem dX11_sitting_32 : decode cX11_sitting 32 = .ok (.istore_n 1, 1) := by decide +kernel
theorem dX11_sitting_33 : decode cX11_sitting 33 = .ok (.iinc 2 1, 3) := by decide +kernel
theorem dX11_sitting_36 : decode cX11_sitting 36 = .ok (.goto (-32), 3) := by decide +kernel
theorem dX11_sitting_39 : decode cX11_sitting 39 = .ok (.iload_n 1, 1) := by decide +kernel
theorem dX11_sitting_40 : decode cX11_sitting 40 = .ok (.ireturn, 1) := by decide +kernel
set_option maxHeartbeats 4000000 in
set_option maxRecDepth 100000 in
theorem ctX11_sitting  {σ : jq_M} {res : Int}  (h : X11_sitting σ = some res) : jq_MC jq_zM yX11_sitting cX11_sitting 3 (some .int) 3 81 [jR 0] σ (some (jI res)) σ := by
  refine jq_met (own := RX11) (L0 := [(0, jR 0)]) (by decide) rfl rfl rfl ?_
  intro X Γ hnl hlY hRT
  refine jq_use2 (P := fun r => jq_RT jq_zM X (some .int) (some (jI r)) σ) ?_ h hRT
  intro K0 hK0
  unfold X11_sitting
  refine jq_iconst Γ dX11_sitting_0 rfl ?_
  refine jq_istore_n (L' := [(1, jI 0), (0, jR 0)]) Γ dX11_sitting_1 rfl hnl rfl rfl ?_
  refine jq_iconst Γ dX11_sitting_2 rfl ?_
  refine jq_istore_n (L' := [(2, jI 0), (1, jI 0), (0, jR 0)]) Γ dX11_sitting_3 rfl hnl rfl rfl ?_
  refine jq_sub Γ (L' := [(0, jR 0), (1, jI 0), (2, jI 0)]) [2, 1, 0] rfl ?_
  refine jq_loop2 (C := fun (t1 : Int × Int) => jq_V jq_zM X (jq_zN jq_zM) σ 4 [(0, jR 0), (1, jI t1.1), (2, jI t1.2)] []) (KX := fun (e8 : Int) => jq_V jq_zM X (jq_zN jq_zM) σ 39 [(1, jI e8)] []) ?_ ?_ (0, 0)
  · intro K4_t1 hCt1 hXt1 t1
    unfold X11_sitting_b4
    refine jq_iload_n Γ dX11_sitting_4 rfl 2 rfl ?_
    refine jq_aload_n Γ dX11_sitting_5 rfl 0 rfl (jq_at_0 at_M_0) ?_
    refine jq_getR (v := 1) Γ hlY at_M_0 fl_RX11_7 rfl rfl ly_X11_at dX11_sitting_6 ?_
    refine jq_iconst Γ dX11_sitting_9 rfl ?_
    refine jq_iald Γ at_M_1 rfl dX11_sitting_10 (fun v2 => ?_)
    refine jq_icmp_ge (tgt := 39) Γ dX11_sitting_11 rfl ?_ ?_
    · refine jq_sub Γ (L' := [(1, jI t1.1)]) [1] rfl ?_
      exact jq_done (hXt1 t1.1)
    · refine jq_iload_n Γ dX11_sitting_14 rfl 1 rfl ?_
      refine jq_aload_n Γ dX11_sitting_15 rfl 0 rfl (jq_at_0 at_M_0) ?_
      refine jq_iload_n Γ dX11_sitting_16 rfl 2 rfl ?_
      refine jq_cpI (jq_virt (avs := [jI t1.2]) (st := [jI t1.1]) Γ hlY rfl ml_RX11_257 rfl at_M_0 rfl rfl rfl rfl rfl dX11_sitting_17) (fun r h => ctX11_seatOf h) (fun v3 => ?_)
      refine jq_iconst Γ dX11_sitting_20 rfl ?_
      refine jq_icmp_ne (tgt := 28) Γ dX11_sitting_21 rfl ?_ ?_
      · refine jq_iconst Γ dX11_sitting_28 rfl ?_
        refine jq_iload_n Γ dX11_sitting_29 rfl 2 rfl ?_
        refine jq_ishl Γ dX11_sitting_30 ?_
        refine jq_ior Γ dX11_sitting_31 ?_
        refine jq_nmI (fun v4 => ?_)
        refine jq_istore_n (L' := [(1, jI v4), (0, jR 0), (2, jI t1.2)]) Γ dX11_sitting_32 rfl hnl rfl rfl ?_
        refine jq_iincN (L' := fun v5 => [(2, jI v5), (1, jI v4), (0, jR 0)]) Γ dX11_sitting_33 2 rfl hnl rfl (fun _ => rfl) (fun v5 => ?_)
        refine jq_goto Γ (tgt := 4) dX11_sitting_36 rfl ?_
        refine jq_sub Γ (L' := [(0, jR 0), (1, jI v4), (2, jI v5)]) [2, 1, 0] rfl ?_
        exact jq_done (hCt1 (v4, v5))
      · refine jq_iconst Γ dX11_sitting_24 rfl ?_
        refine jq_goto Γ (tgt := 31) dX11_sitting_25 rfl ?_
        refine jq_ior Γ dX11_sitting_31 ?_
        refine jq_nmI (fun v6 => ?_)
        refine jq_istore_n (L' := [(1, jI v6), (0, jR 0), (2, jI t1.2)]) Γ dX11_sitting_32 rfl hnl rfl rfl ?_
        refine jq_iincN (L' := fun v7 => [(2, jI v7), (1, jI v6), (0, jR 0)]) Γ dX11_sitting_33 2 rfl hnl rfl (fun _ => rfl) (fun v7 => ?_)
        refine jq_goto Γ (tgt := 4) dX11_sitting_36 rfl ?_
        refine jq_sub Γ (L' := [(0, jR 0), (1, jI v6), (2, jI v7)]) [2, 1, 0] rfl ?_
        exact jq_done (hCt1 (v6, v7))
  · intro e8
    refine jq_iload_n Γ dX11_sitting_39 rfl 0 rfl ?_
    exact jq_ireturn Γ dX11_sitting_40 (hK0 _)


theorem dX11_openNow_0 : decode cX11_openNow 0 = .ok (.iconst 0, 1) := by decide +kernel
theorem dX11_openNow_1 : decode cX11_openNow 1 = .ok (.istore_n 1, 1) := by decide +kernel
theorem dX11_openNow_2 : decode cX11_openNow 2 = .ok (.iconst 0, 1) := by decide +kernel
theorem dX11_openNow_3 : decode cX11_openNow 3 = .ok (.istore_n 2, 1) := by decide +kernel
theorem dX11_openNow_4 : decode cX11_openNow 4 = .ok (.iload_n 2, 1) := by decide +kernel
theorem dX11_openNow_5 : decode cX11_openNow 5 = .ok (.aload_n 0, 1) := by decide +kernel
theorem dX11_openNow_6 : decode cX11_openNow 6 = .ok (.getfield 7, 3) := by decide +kernel
theorem dX11_openNow_9 : decode cX11_openNow 9 = .ok (.iconst 3, 1) := by decide +kernel
theorem dX11_openNow_10 : decode cX11_openNow 10 = .ok (.iaload, 1) := by decide +kernel
theorem dX11_openNow_11 : decode cX11_openNow 11 = .ok (.if_icmp .ge 27, 3) := by decide +kernel
theorem dX11_openNow_14 : decode cX11_openNow 14 = .ok (.iload_n 1, 1) := by decide +kernel
theorem dX11_openNow_15 : decode cX11_openNow 15 = .ok (.aload_n 0, 1) := by decide +kernel
theorem dX11_openNow_16 : decode cX11_openNow 16 = .ok (.iload_n 2, 1) := by decide +kernel
theorem dX11_openNow_17 : decode cX11_openNow 17 = .ok (.invokevirtual 299, 3) := by decide +kernel
theorem dX11_openNow_20 : decode cX11_openNow 20 = .ok (.ifCond .eq 9, 3) := by decide +kernel
theorem dX11_openNow_23 : decode cX11_openNow 23 = .ok (.iconst 1, 1) := by decide +kernel
theorem dX11_openNow_24 : decode cX11_openNow 24 = .ok (.iload_n 2, 1) := by decide +kernel
theorem dX11_openNow_25 : decode cX11_openNow 25 = .ok (.ishl, 1) := by decide +kernel
theorem dX11_openNow_26 : decode cX11_openNow 26 = .ok (.goto 4, 3) := by decide +kernel
theorem dX11_openNow_29 : decode cX11_openNow 29 = .ok (.iconst 0, 1) := by decide +kernel
theorem dX11_openNow_30 : decode cX11_openNow 30 = .ok (.ior, 1) := by decide +kernel
theorem dX11_openNow_31 : decode cX11_openNow 31 = .ok (.istore_n 1, 1) := by decide +kernel
theorem dX11_openNow_32 : decode cX11_openNow 32 = .ok (.iinc 2 1, 3) := by decide +kernel
theorem dX11_openNow_35 : decode cX11_openNow 35 = .ok (.goto (-31), 3) := by decide +kernel
theorem dX11_openNow_38 : decode cX11_openNow 38 = .ok (.iload_n 1, 1) := by decide +kernel
theorem dX11_openNow_39 : decode cX11_openNow 39 = .ok (.ireturn, 1) := by decide +kernel
set_option maxHeartbeats 4000000 in
set_option maxRecDepth 100000 in
theorem ctX11_openNow  {σ : jq_M} {res : Int}  (h : X11_openNow σ = some res) : jq_MC jq_zM yX11_openNow cX11_openNow 3 (some .int) 5 124 [jR 0] σ (some (jI res)) σ := by
  refine jq_met (own := RX11) (L0 := [(0, jR 0)]) (by decide) rfl rfl rfl ?_
  intro X Γ hnl hlY hRT
  refine jq_use2 (P := fun r => jq_RT jq_zM X (some .int) (some (jI r)) σ) ?_ h hRT
  intro K0 hK0
  unfold X11_openNow
  refine jq_iconst Γ dX11_openNow_0 rfl ?_
  refine jq_istore_n (L' := [(1, jI 0), (0, jR 0)]) Γ dX11_openNow_1 rfl hnl rfl rfl ?_
  refine jq_iconst Γ dX11_openNow_2 rfl ?_
  refine jq_istore_n (L' := [(2, jI 0), (1, jI 0), (0, jR 0)]) Γ dX11_openNow_3 rfl hnl rfl rfl ?_
  refine jq_sub Γ (L' := [(0, jR 0), (1, jI 0), (2, jI 0)]) [2, 1, 0] rfl ?_
  refine jq_loop2 (C := fun (t1 : Int × Int) => jq_V jq_zM X (jq_zN jq_zM) σ 4 [(0, jR 0), (1, jI t1.1), (2, jI t1.2)] []) (KX := fun (e9 : Int) => jq_V jq_zM X (jq_zN jq_zM) σ 38 [(1, jI e9)] []) ?_ ?_ (0, 0)
  · intro K4_t1 hCt1 hXt1 t1
    unfold X11_openNow_b4
    refine jq_iload_n Γ dX11_openNow_4 rfl 2 rfl ?_
    refine jq_aload_n Γ dX11_openNow_5 rfl 0 rfl (jq_at_0 at_M_0) ?_
    refine jq_getR (v := 1) Γ hlY at_M_0 fl_RX11_7 rfl rfl ly_X11_at dX11_openNow_6 ?_
    refine jq_iconst Γ dX11_openNow_9 rfl ?_
    refine jq_iald Γ at_M_1 rfl dX11_openNow_10 (fun v2 => ?_)
    refine jq_icmp_ge (tgt := 38) Γ dX11_openNow_11 rfl ?_ ?_
    · refine jq_sub Γ (L' := [(1, jI t1.1)]) [1] rfl ?_
      exact jq_done (hXt1 t1.1)
    · refine jq_iload_n Γ dX11_openNow_14 rfl 1 rfl ?_
      refine jq_aload_n Γ dX11_openNow_15 rfl 0 rfl (jq_at_0 at_M_0) ?_
      refine jq_iload_n Γ dX11_openNow_16 rfl 2 rfl ?_
      refine jq_cpZ (jq_virt (avs := [jI t1.2]) (st := [jI t1.1]) Γ hlY rfl ml_RX11_299 rfl at_M_0 rfl rfl rfl rfl rfl dX11_openNow_17) rfl (fun r h => ctX11_isOpen h) (fun v3 hz4 => ?_)
      refine jq_if_eq (tgt := 29) Γ dX11_openNow_20 rfl ?_ ?_
      · refine jq_iconst Γ dX11_openNow_29 rfl ?_
        refine jq_ior Γ dX11_openNow_30 ?_
        refine jq_nmI (fun v5 => ?_)
        refine jq_istore_n (L' := [(1, jI v5), (0, jR 0), (2, jI t1.2)]) Γ dX11_openNow_31 rfl hnl rfl rfl ?_
        refine jq_iincN (L' := fun v6 => [(2, jI v6), (1, jI v5), (0, jR 0)]) Γ dX11_openNow_32 2 rfl hnl rfl (fun _ => rfl) (fun v6 => ?_)
        refine jq_goto Γ (tgt := 4) dX11_openNow_35 rfl ?_
        refine jq_sub Γ (L' := [(0, jR 0), (1, jI v5), (2, jI v6)]) [2, 1, 0] rfl ?_
        exact jq_done (hCt1 (v5, v6))
      · refine jq_iconst Γ dX11_openNow_23 rfl ?_
        refine jq_iload_n Γ dX11_openNow_24 rfl 2 rfl ?_
        refine jq_ishl Γ dX11_openNow_25 ?_
        refine jq_goto Γ (tgt := 30) dX11_openNow_26 rfl ?_
        refine jq_ior Γ dX11_openNow_30 ?_
        refine jq_nmI (fun v7 => ?_)
        refine jq_istore_n (L' := [(1, jI v7), (0, jR 0), (2, jI t1.2)]) Γ dX11_openNow_31 rfl hnl rfl rfl ?_
        refine jq_iincN (L' := fun v8 => [(2, jI v8), (1, jI v7), (0, jR 0)]) Γ dX11_openNow_32 2 rfl hnl rfl (fun _ => rfl) (fun v8 => ?_)
        refine jq_goto Γ (tgt := 4) dX11_openNow_35 rfl ?_
        refine jq_sub Γ (L' := [(0, jR 0), (1, jI v7), (2, jI v8)]) [2, 1, 0] rfl ?_
        exact jq_done (hCt1 (v7, v8))
  · intro e9
    refine jq_iload_n Γ dX11_openNow_38 rfl 0 rfl ?_
    exact jq_ireturn Γ dX11_openNow_39 (hK0 _)


theorem dX11_told_0 : decode cX11_told 0 = .ok (.iload_n 1, 1) := by decide +kernel
theorem dX11_told_1 : decode cX11_told 1 = .ok (.ifCond .lt 9, 3) := by decide +kernel
theorem dX11_told_4 : decode cX11_told 4 = .ok (.iload_n 1, 1) := by decide +kernel
theorem dX11_told_5 : decode cX11_told 5 = .ok (.bipush 9, 2) := by decide +kernel
theorem dX11_told_7 : decode cX11_told 7 = .ok (.if_icmp .le 9, 3) := by decide +kernel
theorem dX11_told_10 : decode cX11_told 10 = .ok (.aload_n 0, 1) := by decide +kernel
theorem dX11_told_11 : decode cX11_told 11 = .ok (.iconst 1, 1) := by decide +kernel
theorem dX11_told_12 : decode cX11_told 12 = .ok (.invokevirtual 84, 3) := by decide +kernel
theorem dX11_told_15 : decode cX11_told 15 = .ok (.ireturn, 1) := by decide +kernel
theorem dX11_told_16 : decode cX11_told 16 = .ok (.aload_n 0, 1) := by decide +kernel
theorem dX11_told_17 : decode cX11_told 17 = .ok (.invokevirtual 302, 3) := by decide +kernel
theorem dX11_told_20 : decode cX11_told 20 = .ok (.iload_n 1, 1) := by decide +kernel
theorem dX11_told_21 : decode cX11_told 21 = .ok (.tableswitch 67 6 9 #[31, 40, 49, 58], 31) := by decide +kernel
theorem dX11_told_52 : decode cX11_told 52 = .ok (.aload_n 0, 1) := by decide +kernel
theorem dX11_told_53 : decode cX11_told 53 = .ok (.aload_n 0, 1) := by decide +kernel
theorem dX11_told_54 : decode cX11_told 54 = .ok (.invokevirtual 305, 3) := by decide +kernel
theorem dX11_told_57 : decode cX11_told 57 = .ok (.invokevirtual 88, 3) := by decide +kernel
theorem dX11_told_60 : decode cX11_told 60 = .ok (.ireturn, 1) := by decide +kernel
theorem dX11_told_61 : decode cX11_told 61 = .ok (.aload_n 0, 1) := by decide +kernel
theorem dX11_told_62 : decode cX11_told 62 = .ok (.aload_n 0, 1) := by decide +kernel
theorem dX11_told_63 : decode cX11_told 63 = .ok (.invokevirtual 308, 3) := by decide +kernel
theorem dX11_told_66 : decode cX11_told 66 = .ok (.invokevirtual 88, 3) := by decide +kernel
theorem dX11_told_69 : decode cX11_told 69 = .ok (.ireturn, 1) := by decide +kernel
theorem dX11_told_70 : decode cX11_told 70 = .ok (.aload_n 0, 1) := by decide +kernel
theorem dX11_told_71 : decode cX11_told 71 = .ok (.aload_n 0, 1) := by decide +kernel
theorem dX11_told_72 : decode cX11_told 72 = .ok (.invokevirtual 296, 3) := by decide +kernel
theorem dX11_told_75 : decode cX11_told 75 = .ok (.invokevirtual 88, 3) := by decide +kernel
theorem dX11_told_78 : decode cX11_told 78 = .ok (.ireturn, 1) := by decide +kernel
theorem dX11_told_79 : decode cX11_told 79 = .ok (.aload_n 0, 1) := by decide +kernel
theorem dX11_told_80 : decode cX11_told 80 = .ok (.aload_n 0, 1) := by decide +kernel
theorem dX11_told_81 : decode cX11_told 81 = .ok (.invokevirtual 311, 3) := by decide +kernel
theorem dX11_told_84 : decode cX11_told 84 = .ok (.invokevirtual 88, 3) := by decide +kernel
theorem dX11_told_87 : decode cX11_told 87 = .ok (.ireturn, 1) := by decide +kernel
theorem dX11_told_88 : decode cX11_told 88 = .ok (.aload_n 0, 1) := by decide +kernel
theorem dX11_told_89 : decode cX11_told 89 = .ok (.aload_n 0, 1) := by decide +kernel
theorem dX11_told_90 : decode cX11_told 90 = .ok (.getfield 7, 3) := by decide +kernel
theorem dX11_told_93 : decode cX11_told 93 = .ok (.iload_n 1, 1) := by decide +kernel
theorem dX11_told_94 : decode cX11_told 94 = .ok (.iaload, 1) := by decide +kernel
theorem dX11_told_95 : decode cX11_told 95 = .ok (.invokevirtual 88, 3) := by decide +kernel
theorem dX11_told_98 : decode cX11_told 98 = .ok (.ireturn, 1) := by decide +kernel
set_option maxHeartbeats 4000000 in
set_option maxRecDepth 100000 in
theorem ctX11_told {p1 : Int} {σ : jq_M} {res : Int} {σ' : jq_M}  (h : X11_told p1 σ = some (res, σ')) : jq_MC jq_zM yX11_told cX11_told 2 (some .int) 6 153 [jR 0, jI p1] σ (some (jI res)) σ' := by
  refine jq_met (own := RX11) (L0 := [(0, jR 0), (1, jI p1)]) (by decide) rfl rfl rfl ?_
  intro X Γ hnl hlY hRT
  refine jq_use2 (P := fun r => jq_RT jq_zM X (some .int) (some (jI r.1)) r.2) ?_ h hRT
  intro K0 hK0
  unfold X11_told
  have hj10_0 : ∀ (s1 : jq_M), jq_J (X11_told_j10 s1) K0 (jq_V jq_zM X (jq_zN jq_zM) s1 10 [(0, jR 0)] []) := by
    intro s1
    unfold X11_told_j10
    refine jq_aload_n Γ dX11_told_10 rfl 0 rfl (jq_at_0 at_M_0) ?_
    refine jq_iconst Γ dX11_told_11 rfl ?_
    refine jq_cwI (jq_virt (avs := [jI 1]) (st := []) Γ hlY rfl ml_RX11_84 rfl at_M_0 rfl rfl rfl rfl rfl dX11_told_12) (fun r σ' h => ctX11_refuse h) (fun v2 s3 => ?_)
    exact jq_ireturn Γ dX11_told_15 (hK0 _)
  refine jq_iload_n Γ dX11_told_0 rfl 1 rfl ?_
  refine jq_if_lt (tgt := 10) Γ dX11_told_1 rfl ?_ ?_
  · refine jq_sub Γ (L' := [(0, jR 0)]) [0] rfl ?_
    exact hj10_0 σ
  · refine jq_iload_n Γ dX11_told_4 rfl 1 rfl ?_
    refine jq_bipush Γ dX11_told_5 rfl ?_
    refine jq_icmp_le (tgt := 16) Γ dX11_told_7 rfl ?_ ?_
    · refine jq_aload_n Γ dX11_told_16 rfl 0 rfl (jq_at_0 at_M_0) ?_
      refine jq_cwV (jq_virt (avs := []) (st := []) Γ hlY rfl ml_RX11_302 rfl at_M_0 rfl rfl rfl rfl rfl dX11_told_17) (fun σ' h => ctX11_seatsNow h) (fun s4 => ?_)
      refine jq_iload_n Γ dX11_told_20 rfl 1 rfl ?_
      refine jq_split (fun hc5 => ?_) (fun hn6_21 => ?_)
      · refine jq_tabIn (tgt := 52) Γ dX11_told_21 hc5 rfl rfl rfl ?_
        refine jq_aload_n Γ dX11_told_52 rfl 0 rfl (jq_at_0 at_M_0) ?_
        refine jq_aload_n Γ dX11_told_53 rfl 0 rfl (jq_at_0 at_M_0) ?_
        refine jq_cpI (jq_virt (avs := []) (st := [jR 0]) Γ hlY rfl ml_RX11_305 rfl at_M_0 rfl rfl rfl rfl rfl dX11_told_54) (fun r h => ctX11_sitting h) (fun v6 => ?_)
        refine jq_cwI (jq_virt (avs := [jI v6]) (st := []) Γ hlY rfl ml_RX11_88 rfl at_M_0 rfl rfl rfl rfl rfl dX11_told_57) (fun r σ' h => ctX11_gives h) (fun v7 s8 => ?_)
        exact jq_ireturn Γ dX11_told_60 (hK0 _)
      · refine jq_split (fun hc9 => ?_) (fun hn7_21 => ?_)
        · refine jq_tabIn (tgt := 61) Γ dX11_told_21 hc9 rfl rfl rfl ?_
          refine jq_aload_n Γ dX11_told_61 rfl 0 rfl (jq_at_0 at_M_0) ?_
          refine jq_aload_n Γ dX11_told_62 rfl 0 rfl (jq_at_0 at_M_0) ?_
          refine jq_cpI (jq_virt (avs := []) (st := [jR 0]) Γ hlY rfl ml_RX11_308 rfl at_M_0 rfl rfl rfl rfl rfl dX11_told_63) (fun r h => ctX11_signing h) (fun v10 => ?_)
          refine jq_cwI (jq_virt (avs := [jI v10]) (st := []) Γ hlY rfl ml_RX11_88 rfl at_M_0 rfl rfl rfl rfl rfl dX11_told_66) (fun r σ' h => ctX11_gives h) (fun v11 s12 => ?_)
          exact jq_ireturn Γ dX11_told_69 (hK0 _)
        · refine jq_split (fun hc13 => ?_) (fun hn8_21 => ?_)
          · refine jq_tabIn (tgt := 70) Γ dX11_told_21 hc13 rfl rfl rfl ?_
            refine jq_aload_n Γ dX11_told_70 rfl 0 rfl (jq_at_0 at_M_0) ?_
            refine jq_aload_n Γ dX11_told_71 rfl 0 rfl (jq_at_0 at_M_0) ?_
            refine jq_cpI (jq_virt (avs := []) (st := [jR 0]) Γ hlY rfl ml_RX11_296 rfl at_M_0 rfl rfl rfl rfl rfl dX11_told_72) (fun r h => ctX11_agreedNow h) (fun v14 => ?_)
            refine jq_cwI (jq_virt (avs := [jI v14]) (st := []) Γ hlY rfl ml_RX11_88 rfl at_M_0 rfl rfl rfl rfl rfl dX11_told_75) (fun r σ' h => ctX11_gives h) (fun v15 s16 => ?_)
            exact jq_ireturn Γ dX11_told_78 (hK0 _)
          · refine jq_split (fun hc17 => ?_) (fun hn9_21 => ?_)
            · refine jq_tabIn (tgt := 79) Γ dX11_told_21 hc17 rfl rfl rfl ?_
              refine jq_aload_n Γ dX11_told_79 rfl 0 rfl (jq_at_0 at_M_0) ?_
              refine jq_aload_n Γ dX11_told_80 rfl 0 rfl (jq_at_0 at_M_0) ?_
              refine jq_cpI (jq_virt (avs := []) (st := [jR 0]) Γ hlY rfl ml_RX11_311 rfl at_M_0 rfl rfl rfl rfl rfl dX11_told_81) (fun r h => ctX11_openNow h) (fun v18 => ?_)
              refine jq_cwI (jq_virt (avs := [jI v18]) (st := []) Γ hlY rfl ml_RX11_88 rfl at_M_0 rfl rfl rfl rfl rfl dX11_told_84) (fun r σ' h => ctX11_gives h) (fun v19 s20 => ?_)
              exact jq_ireturn Γ dX11_told_87 (hK0 _)
            · refine jq_tabOut (tgt := 88) Γ dX11_told_21 (by omega) rfl ?_
              refine jq_aload_n Γ dX11_told_88 rfl 0 rfl (jq_at_0 at_M_0) ?_
              refine jq_aload_n Γ dX11_told_89 rfl 0 rfl (jq_at_0 at_M_0) ?_
              refine jq_getR (v := 1) Γ hlY at_M_0 fl_RX11_7 rfl rfl ly_X11_at dX11_told_90 ?_
              refine jq_iload_n Γ dX11_told_93 rfl 1 rfl ?_
              refine jq_iald Γ at_M_1 rfl dX11_told_94 (fun v21 => ?_)
              refine jq_cwI (jq_virt (avs := [jI v21]) (st := []) Γ hlY rfl ml_RX11_88 rfl at_M_0 rfl rfl rfl rfl rfl dX11_told_95) (fun r σ' h => ctX11_gives h) (fun v22 s23 => ?_)
              exact jq_ireturn Γ dX11_told_98 (hK0 _)
    · refine jq_sub Γ (L' := [(0, jR 0)]) [0] rfl ?_
      exact hj10_0 σ


theorem dX11_sitsAt_0 : decode cX11_sitsAt 0 = .ok (.iconst 0, 1) := by decide +kernel
theorem dX11_sitsAt_1 : decode cX11_sitsAt 1 = .ok (.istore_n 2, 1) := by decide +kernel
theorem dX11_sitsAt_2 : decode cX11_sitsAt 2 = .ok (.iload_n 2, 1) := by decide +kernel
theorem dX11_sitsAt_3 : decode cX11_sitsAt 3 = .ok (.aload_n 0, 1) := by decide +kernel
theorem dX11_sitsAt_4 : decode cX11_sitsAt 4 = .ok (.getfield 7, 3) := by decide +kernel
theorem dX11_sitsAt_7 : decode cX11_sitsAt 7 = .ok (.iconst 1, 1) := by decide +kernel
theorem dX11_sitsAt_8 : decode cX11_sitsAt 8 = .ok (.iaload, 1) := by decide +kernel
theorem dX11_sitsAt_9 : decode cX11_sitsAt 9 = .ok (.if_icmp .ge 20, 3) := by decide +kernel
theorem dX11_sitsAt_12 : decode cX11_sitsAt 12 = .ok (.aload_n 0, 1) := by decide +kernel
theorem dX11_sitsAt_13 : decode cX11_sitsAt 13 = .ok (.iload_n 2, 1) := by decide +kernel
theorem dX11_sitsAt_14 : decode cX11_sitsAt 14 = .ok (.invokevirtual 257, 3) := by decide +kernel
theorem dX11_sitsAt_17 : decode cX11_sitsAt 17 = .ok (.iload_n 1, 1) := by decide +kernel
theorem dX11_sitsAt_18 : decode cX11_sitsAt 18 = .ok (.if_icmp .ne 5, 3) := by decide +kernel
theorem dX11_sitsAt_21 : decode cX11_sitsAt 21 = .ok (.iload_n 2, 1) := by decide +kernel
theorem dX11_sitsAt_22 : decode cX11_sitsAt 22 = .ok (.ireturn, 1) := by decide +kernel
theorem dX11_sitsAt_23 : decode cX11_sitsAt 23 = .ok (.iinc 2 1, 3) := by decide +kernel
theorem dX11_sitsAt_26 : decode cX11_sitsAt 26 = .ok (.goto (-24), 3) := by decide +kernel
theorem dX11_sitsAt_29 : decode cX11_sitsAt 29 = .ok (.iconst (-1), 1) := by decide +kernel
theorem dX11_sitsAt_30 : decode cX11_sitsAt 30 = .ok (.ireturn, 1) := by decide +kernel
set_option maxHeartbeats 4000000 in
set_option maxRecDepth 100000 in
theorem ctX11_sitsAt {p1 : Int} {σ : jq_M} {res : Int}  (h : X11_sitsAt p1 σ = some res) : jq_MC jq_zM yX11_sitsAt cX11_sitsAt 3 (some .int) 3 81 [jR 0, jI p1] σ (some (jI res)) σ := by
  refine jq_met (own := RX11) (L0 := [(0, jR 0), (1, jI p1)]) (by decide) rfl rfl rfl ?_
  intro X Γ hnl hlY hRT
  refine jq_use2 (P := fun r => jq_RT jq_zM X (some .int) (some (jI r)) σ) ?_ h hRT
  intro K0 hK0
  unfold X11_sitsAt
  refine jq_iconst Γ dX11_sitsAt_0 rfl ?_
  refine jq_istore_n (L' := [(2, jI 0), (0, jR 0), (1, jI p1)]) Γ dX11_sitsAt_1 rfl hnl rfl rfl ?_
  refine jq_sub Γ (L' := [(0, jR 0), (1, jI p1), (2, jI 0)]) [1, 2, 0] rfl ?_
  refine jq_loop2 (C := fun (t1 : Int) => jq_V jq_zM X (jq_zN jq_zM) σ 2 [(0, jR 0), (1, jI p1), (2, jI t1)] []) (KX := Sum.elim (fun (e5 : Int) => jq_V jq_zM X (jq_zN jq_zM) σ 21 [(2, jI e5)] []) (fun (e6 : Unit) => jq_V jq_zM X (jq_zN jq_zM) σ 29 [] [])) ?_ ?_ 0
  · intro K2_t1 hCt1 hXt1 t1
    unfold X11_sitsAt_b2
    refine jq_iload_n Γ dX11_sitsAt_2 rfl 2 rfl ?_
    refine jq_aload_n Γ dX11_sitsAt_3 rfl 0 rfl (jq_at_0 at_M_0) ?_
    refine jq_getR (v := 1) Γ hlY at_M_0 fl_RX11_7 rfl rfl ly_X11_at dX11_sitsAt_4 ?_
    refine jq_iconst Γ dX11_sitsAt_7 rfl ?_
    refine jq_iald Γ at_M_1 rfl dX11_sitsAt_8 (fun v2 => ?_)
    refine jq_icmp_ge (tgt := 29) Γ dX11_sitsAt_9 rfl ?_ ?_
    · refine jq_sub Γ (L' := []) [] rfl ?_
      exact jq_done (hXt1 (.inr ()))
    · refine jq_aload_n Γ dX11_sitsAt_12 rfl 0 rfl (jq_at_0 at_M_0) ?_
      refine jq_iload_n Γ dX11_sitsAt_13 rfl 2 rfl ?_
      refine jq_cpI (jq_virt (avs := [jI t1]) (st := []) Γ hlY rfl ml_RX11_257 rfl at_M_0 rfl rfl rfl rfl rfl dX11_sitsAt_14) (fun r h => ctX11_seatOf h) (fun v3 => ?_)
      refine jq_iload_n Γ dX11_sitsAt_17 rfl 1 rfl ?_
      refine jq_icmp_ne (tgt := 23) Γ dX11_sitsAt_18 rfl ?_ ?_
      · refine jq_iincN (L' := fun v4 => [(2, jI v4), (0, jR 0), (1, jI p1)]) Γ dX11_sitsAt_23 2 rfl hnl rfl (fun _ => rfl) (fun v4 => ?_)
        refine jq_goto Γ (tgt := 2) dX11_sitsAt_26 rfl ?_
        refine jq_sub Γ (L' := [(0, jR 0), (1, jI p1), (2, jI v4)]) [1, 2, 0] rfl ?_
        exact jq_done (hCt1 v4)
      · refine jq_sub Γ (L' := [(2, jI t1)]) [2] rfl ?_
        exact jq_done (hXt1 (.inl t1))
  · refine jq_elim ?_ ?_
    · intro e5
      refine jq_iload_n Γ dX11_sitsAt_21 rfl 0 rfl ?_
      exact jq_ireturn Γ dX11_sitsAt_22 (hK0 _)
    · intro e6
      refine jq_iconst Γ dX11_sitsAt_29 rfl ?_
      exact jq_ireturn Γ dX11_sitsAt_30 (hK0 _)


theorem dX11_who_0 : decode cX11_who 0 = .ok (.aload_n 0, 1) := by decide +kernel
theorem dX11_who_1 : decode cX11_who 1 = .ok (.iload_n 1, 1) := by decide +kernel
theorem dX11_who_2 : decode cX11_who 2 = .ok (.invokevirtual 314, 3) := by decide +kernel
theorem dX11_who_5 : decode cX11_who 5 = .ok (.ifCond .eq 15, 3) := by decide +kernel
theorem dX11_who_8 : decode cX11_who 8 = .ok (.aload_n 0, 1) := by decide +kernel
theorem dX11_who_9 : decode cX11_who 9 = .ok (.aload_n 0, 1) := by decide +kernel
theorem dX11_who_10 : decode cX11_who 10 = .ok (.iload_n 1, 1) := by decide +kernel
theorem dX11_who_11 : decode cX11_who 11 = .ok (.invokevirtual 317, 3) := by decide +kernel
theorem dX11_who_14 : decode cX11_who 14 = .ok (.invokevirtual 320, 3) := by decide +kernel
theorem dX11_who_17 : decode cX11_who 17 = .ok (.goto 8, 3) := by decide +kernel
theorem dX11_who_20 : decode cX11_who 20 = .ok (.aload_n 0, 1) := by decide +kernel
theorem dX11_who_21 : decode cX11_who 21 = .ok (.iconst 1, 1) := by decide +kernel
theorem dX11_who_22 : decode cX11_who 22 = .ok (.invokevirtual 84, 3) := by decide +kernel
theorem dX11_who_25 : decode cX11_who 25 = .ok (.ireturn, 1) := by decide +kernel
set_option maxHeartbeats 4000000 in
set_option maxRecDepth 100000 in
theorem ctX11_who {p1 : Int} {σ : jq_M} {res : Int} {σ' : jq_M}  (h : X11_who p1 σ = some (res, σ')) : jq_MC jq_zM yX11_who cX11_who 2 (some .int) 4 103 [jR 0, jI p1] σ (some (jI res)) σ' := by
  refine jq_met (own := RX11) (L0 := [(0, jR 0), (1, jI p1)]) (by decide) rfl rfl rfl ?_
  intro X Γ hnl hlY hRT
  refine jq_use2 (P := fun r => jq_RT jq_zM X (some .int) (some (jI r.1)) r.2) ?_ h hRT
  intro K0 hK0
  unfold X11_who
  refine jq_aload_n Γ dX11_who_0 rfl 0 rfl (jq_at_0 at_M_0) ?_
  refine jq_iload_n Γ dX11_who_1 rfl 1 rfl ?_
  refine jq_cpZ (jq_virt (avs := [jI p1]) (st := []) Γ hlY rfl ml_RX11_314 rfl at_M_0 rfl rfl rfl rfl rfl dX11_who_2) rfl (fun r h => ctX11_isPlace h) (fun v1 hz2 => ?_)
  refine jq_if_eq (tgt := 20) Γ dX11_who_5 rfl ?_ ?_
  · refine jq_aload_n Γ dX11_who_20 rfl 0 rfl (jq_at_0 at_M_0) ?_
    refine jq_iconst Γ dX11_who_21 rfl ?_
    refine jq_cwI (jq_virt (avs := [jI 1]) (st := []) Γ hlY rfl ml_RX11_84 rfl at_M_0 rfl rfl rfl rfl rfl dX11_who_22) (fun r σ' h => ctX11_refuse h) (fun v3 s4 => ?_)
    exact jq_ireturn Γ dX11_who_25 (hK0 _)
  · refine jq_aload_n Γ dX11_who_8 rfl 0 rfl (jq_at_0 at_M_0) ?_
    refine jq_aload_n Γ dX11_who_9 rfl 0 rfl (jq_at_0 at_M_0) ?_
    refine jq_iload_n Γ dX11_who_10 rfl 1 rfl ?_
    refine jq_cpI (jq_virt (avs := [jI p1]) (st := [jR 0]) Γ hlY rfl ml_RX11_317 rfl at_M_0 rfl rfl rfl rfl rfl dX11_who_11) (fun r h => ctX11_sitsAt h) (fun v5 => ?_)
    refine jq_cwI (jq_virt (avs := [jI v5]) (st := []) Γ hlY rfl ml_RX11_320 rfl at_M_0 rfl rfl rfl rfl rfl dX11_who_14) (fun r σ' h => ctX11_orNone h) (fun v6 s7 => ?_)
    refine jq_goto Γ (tgt := 25) dX11_who_17 rfl ?_
    exact jq_ireturn Γ dX11_who_25 (hK0 _)


theorem dX11_placeOf_0 : decode cX11_placeOf 0 = .ok (.aload_n 0, 1) := by decide +kernel
theorem dX11_placeOf_1 : decode cX11_placeOf 1 = .ok (.iload_n 1, 1) := by decide +kernel
theorem dX11_placeOf_2 : decode cX11_placeOf 2 = .ok (.invokevirtual 251, 3) := by decide +kernel
theorem dX11_placeOf_5 : decode cX11_placeOf 5 = .ok (.ifCond .eq 15, 3) := by decide +kernel
theorem dX11_placeOf_8 : decode cX11_placeOf 8 = .ok (.aload_n 0, 1) := by decide +kernel
theorem dX11_placeOf_9 : decode cX11_placeOf 9 = .ok (.aload_n 0, 1) := by decide +kernel
theorem dX11_placeOf_10 : decode cX11_placeOf 10 = .ok (.iload_n 1, 1) := by decide +kernel
theorem dX11_placeOf_11 : decode cX11_placeOf 11 = .ok (.invokevirtual 257, 3) := by decide +kernel
theorem dX11_placeOf_14 : decode cX11_placeOf 14 = .ok (.invokevirtual 320, 3) := by decide +kernel
theorem dX11_placeOf_17 : decode cX11_placeOf 17 = .ok (.goto 8, 3) := by decide +kernel
theorem dX11_placeOf_20 : decode cX11_placeOf 20 = .ok (.aload_n 0, 1) := by decide +kernel
theorem dX11_placeOf_21 : decode cX11_placeOf 21 = .ok (.iconst 1, 1) := by decide +kernel
theorem dX11_placeOf_22 : decode cX11_placeOf 22 = .ok (.invokevirtual 84, 3) := by decide +kernel
theorem dX11_placeOf_25 : decode cX11_placeOf 25 = .ok (.ireturn, 1) := by decide +kernel
set_option maxHeartbeats 4000000 in
set_option maxRecDepth 100000 in
theorem ctX11_placeOf {p1 : Int} {σ : jq_M} {res : Int} {σ' : jq_M}  (h : X11_placeOf p1 σ = some (res, σ')) : jq_MC jq_zM yX11_placeOf cX11_placeOf 2 (some .int) 3 82 [jR 0, jI p1] σ (some (jI res)) σ' := by
  refine jq_met (own := RX11) (L0 := [(0, jR 0), (1, jI p1)]) (by decide) rfl rfl rfl ?_
  intro X Γ hnl hlY hRT
  refine jq_use2 (P := fun r => jq_RT jq_zM X (some .int) (some (jI r.1)) r.2) ?_ h hRT
  intro K0 hK0
  unfold X11_placeOf
  refine jq_aload_n Γ dX11_placeOf_0 rfl 0 rfl (jq_at_0 at_M_0) ?_
  refine jq_iload_n Γ dX11_placeOf_1 rfl 1 rfl ?_
  refine jq_cpZ (jq_virt (avs := [jI p1]) (st := []) Γ hlY rfl ml_RX11_251 rfl at_M_0 rfl rfl rfl rfl rfl dX11_placeOf_2) rfl (fun r h => ctX11_isParty h) (fun v1 hz2 => ?_)
  refine jq_if_eq (tgt := 20) Γ dX11_placeOf_5 rfl ?_ ?_
  · refine jq_aload_n Γ dX11_placeOf_20 rfl 0 rfl (jq_at_0 at_M_0) ?_
    refine jq_iconst Γ dX11_placeOf_21 rfl ?_
    refine jq_cwI (jq_virt (avs := [jI 1]) (st := []) Γ hlY rfl ml_RX11_84 rfl at_M_0 rfl rfl rfl rfl rfl dX11_placeOf_22) (fun r σ' h => ctX11_refuse h) (fun v3 s4 => ?_)
    exact jq_ireturn Γ dX11_placeOf_25 (hK0 _)
  · refine jq_aload_n Γ dX11_placeOf_8 rfl 0 rfl (jq_at_0 at_M_0) ?_
    refine jq_aload_n Γ dX11_placeOf_9 rfl 0 rfl (jq_at_0 at_M_0) ?_
    refine jq_iload_n Γ dX11_placeOf_10 rfl 1 rfl ?_
    refine jq_cpI (jq_virt (avs := [jI p1]) (st := [jR 0]) Γ hlY rfl ml_RX11_257 rfl at_M_0 rfl rfl rfl rfl rfl dX11_placeOf_11) (fun r h => ctX11_seatOf h) (fun v5 => ?_)
    refine jq_cwI (jq_virt (avs := [jI v5]) (st := []) Γ hlY rfl ml_RX11_320 rfl at_M_0 rfl rfl rfl rfl rfl dX11_placeOf_14) (fun r σ' h => ctX11_orNone h) (fun v6 s7 => ?_)
    refine jq_goto Γ (tgt := 25) dX11_placeOf_17 rfl ?_
    exact jq_ireturn Γ dX11_placeOf_25 (hK0 _)


theorem dX11_least_0 : decode cX11_least 0 = .ok (.aload_n 0, 1) := by decide +kernel
theorem dX11_least_1 : decode cX11_least 1 = .ok (.iload_n 1, 1) := by decide +kernel
theorem dX11_least_2 : decode cX11_least 2 = .ok (.invokevirtual 251, 3) := by decide +kernel
theorem dX11_least_5 : decode cX11_least 5 = .ok (.ifCond .eq 15, 3) := by decide +kernel
theorem dX11_least_8 : decode cX11_least 8 = .ok (.aload_n 0, 1) := by decide +kernel
theorem dX11_least_9 : decode cX11_least 9 = .ok (.aload_n 0, 1) := by decide +kernel
theorem dX11_least_10 : decode cX11_least 10 = .ok (.iload_n 1, 1) := by decide +kernel
theorem dX11_least_11 : decode cX11_least 11 = .ok (.invokevirtual 281, 3) := by decide +kernel
theorem dX11_least_14 : decode cX11_least 14 = .ok (.invokevirtual 88, 3) := by decide +kernel
theorem dX11_least_17 : decode cX11_least 17 = .ok (.goto 8, 3) := by decide +kernel
theorem dX11_least_20 : decode cX11_least 20 = .ok (.aload_n 0, 1) := by decide +kernel
theorem dX11_least_21 : decode cX11_least 21 = .ok (.iconst 1, 1) := by decide +kernel
theorem dX11_least_22 : decode cX11_least 22 = .ok (.invokevirtual 84, 3) := by decide +kernel
theorem dX11_least_25 : decode cX11_least 25 = .ok (.ireturn, 1) := by decide +kernel
set_option maxHeartbeats 4000000 in
set_option maxRecDepth 100000 in
theorem ctX11_least {p1 : Int} {σ : jq_M} {res : Int} {σ' : jq_M}  (h : X11_least p1 σ = some (res, σ')) : jq_MC jq_zM yX11_least cX11_least 2 (some .int) 3 81 [jR 0, jI p1] σ (some (jI res)) σ' := by
  refine jq_met (own := RX11) (L0 := [(0, jR 0), (1, jI p1)]) (by decide) rfl rfl rfl ?_
  intro X Γ hnl hlY hRT
  refine jq_use2 (P := fun r => jq_RT jq_zM X (some .int) (some (jI r.1)) r.2) ?_ h hRT
  intro K0 hK0
  unfold X11_least
  refine jq_aload_n Γ dX11_least_0 rfl 0 rfl (jq_at_0 at_M_0) ?_
  refine jq_iload_n Γ dX11_least_1 rfl 1 rfl ?_
  refine jq_cpZ (jq_virt (avs := [jI p1]) (st := []) Γ hlY rfl ml_RX11_251 rfl at_M_0 rfl rfl rfl rfl rfl dX11_least_2) rfl (fun r h => ctX11_isParty h) (fun v1 hz2 => ?_)
  refine jq_if_eq (tgt := 20) Γ dX11_least_5 rfl ?_ ?_
  · refine jq_aload_n Γ dX11_least_20 rfl 0 rfl (jq_at_0 at_M_0) ?_
    refine jq_iconst Γ dX11_least_21 rfl ?_
    refine jq_cwI (jq_virt (avs := [jI 1]) (st := []) Γ hlY rfl ml_RX11_84 rfl at_M_0 rfl rfl rfl rfl rfl dX11_least_22) (fun r σ' h => ctX11_refuse h) (fun v3 s4 => ?_)
    exact jq_ireturn Γ dX11_least_25 (hK0 _)
  · refine jq_aload_n Γ dX11_least_8 rfl 0 rfl (jq_at_0 at_M_0) ?_
    refine jq_aload_n Γ dX11_least_9 rfl 0 rfl (jq_at_0 at_M_0) ?_
    refine jq_iload_n Γ dX11_least_10 rfl 1 rfl ?_
    refine jq_cpI (jq_virt (avs := [jI p1]) (st := [jR 0]) Γ hlY rfl ml_RX11_281 rfl at_M_0 rfl rfl rfl rfl rfl dX11_least_11) (fun r h => ctX11_leastOf h) (fun v5 => ?_)
    refine jq_cwI (jq_virt (avs := [jI v5]) (st := []) Γ hlY rfl ml_RX11_88 rfl at_M_0 rfl rfl rfl rfl rfl dX11_least_14) (fun r σ' h => ctX11_gives h) (fun v6 s7 => ?_)
    refine jq_goto Γ (tgt := 25) dX11_least_17 rfl ?_
    exact jq_ireturn Γ dX11_least_25 (hK0 _)


theorem dX11_wish_0 : decode cX11_wish 0 = .ok (.iload_n 1, 1) := by decide +kernel
theorem dX11_wish_1 : decode cX11_wish 1 = .ok (.ifCond .lt 22, 3) := by decide +kernel
theorem dX11_wish_4 : decode cX11_wish 4 = .ok (.iload_n 1, 1) := by decide +kernel
theorem dX11_wish_5 : decode cX11_wish 5 = .ok (.aload_n 0, 1) := by decide +kernel
theorem dX11_wish_6 : decode cX11_wish 6 = .ok (.getfield 7, 3) := by decide +kernel
theorem dX11_wish_9 : decode cX11_wish 9 = .ok (.iconst 2, 1) := by decide +kernel
theorem dX11_wish_10 : decode cX11_wish 10 = .ok (.iaload, 1) := by decide +kernel
theorem dX11_wish_11 : decode cX11_wish 11 = .ok (.if_icmp .ge 12, 3) := by decide +kernel
theorem dX11_wish_14 : decode cX11_wish 14 = .ok (.iload_n 2, 1) := by decide +kernel
theorem dX11_wish_15 : decode cX11_wish 15 = .ok (.ifCond .lt 8, 3) := by decide +kernel
theorem dX11_wish_18 : decode cX11_wish 18 = .ok (.iload_n 2, 1) := by decide +kernel
theorem dX11_wish_19 : decode cX11_wish 19 = .ok (.iconst 3, 1) := by decide +kernel
theorem dX11_wish_20 : decode cX11_wish 20 = .ok (.if_icmp .le 9, 3) := by decide +kernel
theorem dX11_wish_23 : decode cX11_wish 23 = .ok (.aload_n 0, 1) := by decide +kernel
theorem dX11_wish_24 : decode cX11_wish 24 = .ok (.iconst 1, 1) := by decide +kernel
theorem dX11_wish_25 : decode cX11_wish 25 = .ok (.invokevirtual 84, 3) := by decide +kernel
theorem dX11_wish_28 : decode cX11_wish 28 = .ok (.ireturn, 1) := by decide +kernel
theorem dX11_wish_29 : decode cX11_wish 29 = .ok (.iload_n 2, 1) := by decide +kernel
theorem dX11_wish_30 : decode cX11_wish 30 = .ok (.iconst 2, 1) := by decide +kernel
theorem dX11_wish_31 : decode cX11_wish 31 = .ok (.if_icmp .ne 21, 3) := by decide +kernel
theorem dX11_wish_34 : decode cX11_wish 34 = .ok (.aload_n 0, 1) := by decide +kernel
theorem dX11_wish_35 : decode cX11_wish 35 = .ok (.aload_n 0, 1) := by decide +kernel
theorem dX11_wish_36 : decode cX11_wish 36 = .ok (.getfield 7, 3) := by decide +kernel
theorem dX11_wish_39 : decode cX11_wish 39 = .ok (.iload_n 1, 1) := by decide +kernel
theorem dX11_wish_40 : decode cX11_wish 40 = .ok (.invokestatic 263, 3) := by decide +kernel
theorem dX11_wish_43 : decode cX11_wish 43 = .ok (.iconst 2, 1) := by decide +kernel
theorem dX11_wish_44 : decode cX11_wish 44 = .ok (.iadd, 1) := by decide +kernel
theorem dX11_wish_45 : decode cX11_wish 45 = .ok (.iaload, 1) := by decide +kernel
theorem dX11_wish_46 : decode cX11_wish 46 = .ok (.invokevirtual 320, 3) := by decide +kernel
theorem dX11_wish_49 : decode cX11_wish 49 = .ok (.goto 18, 3) := by decide +kernel
theorem dX11_wish_52 : decode cX11_wish 52 = .ok (.aload_n 0, 1) := by decide +kernel
theorem dX11_wish_53 : decode cX11_wish 53 = .ok (.aload_n 0, 1) := by decide +kernel
theorem dX11_wish_54 : decode cX11_wish 54 = .ok (.getfield 7, 3) := by decide +kernel
theorem dX11_wish_57 : decode cX11_wish 57 = .ok (.iload_n 1, 1) := by decide +kernel
theorem dX11_wish_58 : decode cX11_wish 58 = .ok (.invokestatic 263, 3) := by decide +kernel
theorem dX11_wish_61 : decode cX11_wish 61 = .ok (.iload_n 2, 1) := by decide +kernel
theorem dX11_wish_62 : decode cX11_wish 62 = .ok (.iadd, 1) := by decide +kernel
theorem dX11_wish_63 : decode cX11_wish 63 = .ok (.iaload, 1) := by decide +kernel
theorem dX11_wish_64 : decode cX11_wish 64 = .ok (.invokevirtual 88, 3) := by decide +kernel
theorem dX11_wish_67 : decode cX11_wish 67 = .ok (.ireturn, 1) := by decide +kernel
set_option maxHeartbeats 4000000 in
set_option maxRecDepth 100000 in
theorem ctX11_wish {p1 : Int} {p2 : Int} {σ : jq_M} {res : Int} {σ' : jq_M}  (h : X11_wish p1 p2 σ = some (res, σ')) : jq_MC jq_zM yX11_wish cX11_wish 3 (some .int) 3 82 [jR 0, jI p1, jI p2] σ (some (jI res)) σ' := by
  refine jq_met (own := RX11) (L0 := [(0, jR 0), (1, jI p1), (2, jI p2)]) (by decide) rfl rfl rfl ?_
  intro X Γ hnl hlY hRT
  refine jq_use2 (P := fun r => jq_RT jq_zM X (some .int) (some (jI r.1)) r.2) ?_ h hRT
  intro K0 hK0
  unfold X11_wish
  have hj23_0 : ∀ (s1 : jq_M), jq_J (X11_wish_j23 s1) K0 (jq_V jq_zM X (jq_zN jq_zM) s1 23 [(0, jR 0)] []) := by
    intro s1
    unfold X11_wish_j23
    refine jq_aload_n Γ dX11_wish_23 rfl 0 rfl (jq_at_0 at_M_0) ?_
    refine jq_iconst Γ dX11_wish_24 rfl ?_
    refine jq_cwI (jq_virt (avs := [jI 1]) (st := []) Γ hlY rfl ml_RX11_84 rfl at_M_0 rfl rfl rfl rfl rfl dX11_wish_25) (fun r σ' h => ctX11_refuse h) (fun v2 s3 => ?_)
    exact jq_ireturn Γ dX11_wish_28 (hK0 _)
  refine jq_iload_n Γ dX11_wish_0 rfl 1 rfl ?_
  refine jq_if_lt (tgt := 23) Γ dX11_wish_1 rfl ?_ ?_
  · refine jq_sub Γ (L' := [(0, jR 0)]) [0] rfl ?_
    exact hj23_0 σ
  · refine jq_iload_n Γ dX11_wish_4 rfl 1 rfl ?_
    refine jq_aload_n Γ dX11_wish_5 rfl 0 rfl (jq_at_0 at_M_0) ?_
    refine jq_getR (v := 1) Γ hlY at_M_0 fl_RX11_7 rfl rfl ly_X11_at dX11_wish_6 ?_
    refine jq_iconst Γ dX11_wish_9 rfl ?_
    refine jq_iald Γ at_M_1 rfl dX11_wish_10 (fun v4 => ?_)
    refine jq_icmp_ge (tgt := 23) Γ dX11_wish_11 rfl ?_ ?_
    · refine jq_sub Γ (L' := [(0, jR 0)]) [0] rfl ?_
      exact hj23_0 σ
    · refine jq_iload_n Γ dX11_wish_14 rfl 2 rfl ?_
      refine jq_if_lt (tgt := 23) Γ dX11_wish_15 rfl ?_ ?_
      · refine jq_sub Γ (L' := [(0, jR 0)]) [0] rfl ?_
        exact hj23_0 σ
      · refine jq_iload_n Γ dX11_wish_18 rfl 2 rfl ?_
        refine jq_iconst Γ dX11_wish_19 rfl ?_
        refine jq_icmp_le (tgt := 29) Γ dX11_wish_20 rfl ?_ ?_
        · refine jq_iload_n Γ dX11_wish_29 rfl 2 rfl ?_
          refine jq_iconst Γ dX11_wish_30 rfl ?_
          refine jq_icmp_ne (tgt := 52) Γ dX11_wish_31 rfl ?_ ?_
          · refine jq_aload_n Γ dX11_wish_52 rfl 0 rfl (jq_at_0 at_M_0) ?_
            refine jq_aload_n Γ dX11_wish_53 rfl 0 rfl (jq_at_0 at_M_0) ?_
            refine jq_getR (v := 1) Γ hlY at_M_0 fl_RX11_7 rfl rfl ly_X11_at dX11_wish_54 ?_
            refine jq_iload_n Γ dX11_wish_57 rfl 1 rfl ?_
            refine jq_cpI (jq_stat (avs := [jI p1]) (st := [jR 1, jR 0]) Γ hlY rfl ml_RX11_263 rfl rfl rfl rfl rfl dX11_wish_58) (fun r h => ctX11_wishRow h) (fun v5 => ?_)
            refine jq_iload_n Γ dX11_wish_61 rfl 2 rfl ?_
            refine jq_iadd Γ dX11_wish_62 ?_
            refine jq_iald Γ at_M_1 rfl dX11_wish_63 (fun v6 => ?_)
            refine jq_cwI (jq_virt (avs := [jI v6]) (st := []) Γ hlY rfl ml_RX11_88 rfl at_M_0 rfl rfl rfl rfl rfl dX11_wish_64) (fun r σ' h => ctX11_gives h) (fun v7 s8 => ?_)
            exact jq_ireturn Γ dX11_wish_67 (hK0 _)
          · refine jq_aload_n Γ dX11_wish_34 rfl 0 rfl (jq_at_0 at_M_0) ?_
            refine jq_aload_n Γ dX11_wish_35 rfl 0 rfl (jq_at_0 at_M_0) ?_
            refine jq_getR (v := 1) Γ hlY at_M_0 fl_RX11_7 rfl rfl ly_X11_at dX11_wish_36 ?_
            refine jq_iload_n Γ dX11_wish_39 rfl 1 rfl ?_
            refine jq_cpI (jq_stat (avs := [jI p1]) (st := [jR 1, jR 0]) Γ hlY rfl ml_RX11_263 rfl rfl rfl rfl rfl dX11_wish_40) (fun r h => ctX11_wishRow h) (fun v9 => ?_)
            refine jq_iconst Γ dX11_wish_43 rfl ?_
            refine jq_iadd Γ dX11_wish_44 ?_
            refine jq_iald Γ at_M_1 rfl dX11_wish_45 (fun v10 => ?_)
            refine jq_cwI (jq_virt (avs := [jI v10]) (st := []) Γ hlY rfl ml_RX11_320 rfl at_M_0 rfl rfl rfl rfl rfl dX11_wish_46) (fun r σ' h => ctX11_orNone h) (fun v11 s12 => ?_)
            refine jq_goto Γ (tgt := 67) dX11_wish_49 rfl ?_
            exact jq_ireturn Γ dX11_wish_67 (hK0 _)
        · refine jq_sub Γ (L' := [(0, jR 0)]) [0] rfl ?_
          exact hj23_0 σ


theorem dX11_article_0 : decode cX11_article 0 = .ok (.aload_n 0, 1) := by decide +kernel
theorem dX11_article_1 : decode cX11_article 1 = .ok (.iload_n 1, 1) := by decide +kernel
theorem dX11_article_2 : decode cX11_article 2 = .ok (.invokevirtual 323, 3) := by decide +kernel
theorem dX11_article_5 : decode cX11_article 5 = .ok (.ifCond .eq 30, 3) := by decide +kernel
theorem dX11_article_8 : decode cX11_article 8 = .ok (.iload_n 2, 1) := by decide +kernel
theorem dX11_article_9 : decode cX11_article 9 = .ok (.ifCond .lt 26, 3) := by decide +kernel
theorem dX11_article_12 : decode cX11_article 12 = .ok (.iload_n 2, 1) := by decide +kernel
theorem dX11_article_13 : decode cX11_article 13 = .ok (.iconst 4, 1) := by decide +kernel
theorem dX11_article_14 : decode cX11_article 14 = .ok (.if_icmp .gt 21, 3) := by decide +kernel
theorem dX11_article_17 : decode cX11_article 17 = .ok (.aload_n 0, 1) := by decide +kernel
theorem dX11_article_18 : decode cX11_article 18 = .ok (.aload_n 0, 1) := by decide +kernel
theorem dX11_article_19 : decode cX11_article 19 = .ok (.getfield 7, 3) := by decide +kernel
theorem dX11_article_22 : decode cX11_article 22 = .ok (.iload_n 1, 1) := by decide +kernel
theorem dX11_article_23 : decode cX11_article 23 = .ok (.invokestatic 290, 3) := by decide +kernel
theorem dX11_article_26 : decode cX11_article 26 = .ok (.iload_n 2, 1) := by decide +kernel
theorem dX11_article_27 : decode cX11_article 27 = .ok (.iadd, 1) := by decide +kernel
theorem dX11_article_28 : decode cX11_article 28 = .ok (.iaload, 1) := by decide +kernel
theorem dX11_article_29 : decode cX11_article 29 = .ok (.invokevirtual 88, 3) := by decide +kernel
theorem dX11_article_32 : decode cX11_article 32 = .ok (.goto 8, 3) := by decide +kernel
theorem dX11_article_35 : decode cX11_article 35 = .ok (.aload_n 0, 1) := by decide +kernel
theorem dX11_article_36 : decode cX11_article 36 = .ok (.iconst 1, 1) := by decide +kernel
theorem dX11_article_37 : decode cX11_article 37 = .ok (.invokevirtual 84, 3) := by decide +kernel
theorem dX11_article_40 : decode cX11_article 40 = .ok (.ireturn, 1) := by decide +kernel
set_option maxHeartbeats 4000000 in
set_option maxRecDepth 100000 in
theorem ctX11_article {p1 : Int} {p2 : Int} {σ : jq_M} {res : Int} {σ' : jq_M}  (h : X11_article p1 p2 σ = some (res, σ')) : jq_MC jq_zM yX11_article cX11_article 3 (some .int) 2 61 [jR 0, jI p1, jI p2] σ (some (jI res)) σ' := by
  refine jq_met (own := RX11) (L0 := [(0, jR 0), (1, jI p1), (2, jI p2)]) (by decide) rfl rfl rfl ?_
  intro X Γ hnl hlY hRT
  refine jq_use2 (P := fun r => jq_RT jq_zM X (some .int) (some (jI r.1)) r.2) ?_ h hRT
  intro K0 hK0
  unfold X11_article
  have hj35_0 : ∀ (s3 : jq_M), jq_J (X11_article_j35 s3) K0 (jq_V jq_zM X (jq_zN jq_zM) s3 35 [(0, jR 0)] []) := by
    intro s3
    unfold X11_article_j35
    refine jq_aload_n Γ dX11_article_35 rfl 0 rfl (jq_at_0 at_M_0) ?_
    refine jq_iconst Γ dX11_article_36 rfl ?_
    refine jq_cwI (jq_virt (avs := [jI 1]) (st := []) Γ hlY rfl ml_RX11_84 rfl at_M_0 rfl rfl rfl rfl rfl dX11_article_37) (fun r σ' h => ctX11_refuse h) (fun v4 s5 => ?_)
    exact jq_ireturn Γ dX11_article_40 (hK0 _)
  refine jq_aload_n Γ dX11_article_0 rfl 0 rfl (jq_at_0 at_M_0) ?_
  refine jq_iload_n Γ dX11_article_1 rfl 1 rfl ?_
  refine jq_cpZ (jq_virt (avs := [jI p1]) (st := []) Γ hlY rfl ml_RX11_323 rfl at_M_0 rfl rfl rfl rfl rfl dX11_article_2) rfl (fun r h => ctX11_isArticle h) (fun v1 hz2 => ?_)
  refine jq_if_eq (tgt := 35) Γ dX11_article_5 rfl ?_ ?_
  · refine jq_sub Γ (L' := [(0, jR 0)]) [0] rfl ?_
    exact hj35_0 σ
  · refine jq_iload_n Γ dX11_article_8 rfl 2 rfl ?_
    refine jq_if_lt (tgt := 35) Γ dX11_article_9 rfl ?_ ?_
    · refine jq_sub Γ (L' := [(0, jR 0)]) [0] rfl ?_
      exact hj35_0 σ
    · refine jq_iload_n Γ dX11_article_12 rfl 2 rfl ?_
      refine jq_iconst Γ dX11_article_13 rfl ?_
      refine jq_icmp_gt (tgt := 35) Γ dX11_article_14 rfl ?_ ?_
      · refine jq_sub Γ (L' := [(0, jR 0)]) [0] rfl ?_
        exact hj35_0 σ
      · refine jq_aload_n Γ dX11_article_17 rfl 0 rfl (jq_at_0 at_M_0) ?_
        refine jq_aload_n Γ dX11_article_18 rfl 0 rfl (jq_at_0 at_M_0) ?_
        refine jq_getR (v := 1) Γ hlY at_M_0 fl_RX11_7 rfl rfl ly_X11_at dX11_article_19 ?_
        refine jq_iload_n Γ dX11_article_22 rfl 1 rfl ?_
        refine jq_cpI (jq_stat (avs := [jI p1]) (st := [jR 1, jR 0]) Γ hlY rfl ml_RX11_290 rfl rfl rfl rfl rfl dX11_article_23) (fun r h => ctX11_articleRow h) (fun v6 => ?_)
        refine jq_iload_n Γ dX11_article_26 rfl 2 rfl ?_
        refine jq_iadd Γ dX11_article_27 ?_
        refine jq_iald Γ at_M_1 rfl dX11_article_28 (fun v7 => ?_)
        refine jq_cwI (jq_virt (avs := [jI v7]) (st := []) Γ hlY rfl ml_RX11_88 rfl at_M_0 rfl rfl rfl rfl rfl dX11_article_29) (fun r σ' h => ctX11_gives h) (fun v8 s9 => ?_)
        refine jq_goto Γ (tgt := 40) dX11_article_32 rfl ?_
        exact jq_ireturn Γ dX11_article_40 (hK0 _)


theorem dX11_bothSit_0 : decode cX11_bothSit 0 = .ok (.aload_n 0, 1) := by decide +kernel
theorem dX11_bothSit_1 : decode cX11_bothSit 1 = .ok (.iload_n 1, 1) := by decide +kernel
theorem dX11_bothSit_2 : decode cX11_bothSit 2 = .ok (.invokevirtual 257, 3) := by decide +kernel
theorem dX11_bothSit_5 : decode cX11_bothSit 5 = .ok (.iconst (-1), 1) := by decide +kernel
theorem dX11_bothSit_6 : decode cX11_bothSit 6 = .ok (.if_icmp .eq 16, 3) := by decide +kernel
theorem dX11_bothSit_9 : decode cX11_bothSit 9 = .ok (.aload_n 0, 1) := by decide +kernel
theorem dX11_bothSit_10 : decode cX11_bothSit 10 = .ok (.iload_n 2, 1) := by decide +kernel
theorem dX11_bothSit_11 : decode cX11_bothSit 11 = .ok (.invokevirtual 257, 3) := by decide +kernel
theorem dX11_bothSit_14 : decode cX11_bothSit 14 = .ok (.iconst (-1), 1) := by decide +kernel
theorem dX11_bothSit_15 : decode cX11_bothSit 15 = .ok (.if_icmp .eq 7, 3) := by decide +kernel
theorem dX11_bothSit_18 : decode cX11_bothSit 18 = .ok (.iconst 1, 1) := by decide +kernel
theorem dX11_bothSit_19 : decode cX11_bothSit 19 = .ok (.goto 4, 3) := by decide +kernel
theorem dX11_bothSit_22 : decode cX11_bothSit 22 = .ok (.iconst 0, 1) := by decide +kernel
theorem dX11_bothSit_23 : decode cX11_bothSit 23 = .ok (.ireturn, 1) := by decide +kernel
set_option maxHeartbeats 4000000 in
set_option maxRecDepth 100000 in
theorem ctX11_bothSit {p1 : Int} {p2 : Int} {σ : jq_M} {res : Int}  (h : X11_bothSit p1 p2 σ = some res) : jq_MC jq_zM yX11_bothSit cX11_bothSit 3 (some .boolean) 3 81 [jR 0, jI p1, jI p2] σ (some (jI res)) σ := by
  refine jq_met (own := RX11) (L0 := [(0, jR 0), (1, jI p1), (2, jI p2)]) (by decide) rfl rfl rfl ?_
  intro X Γ hnl hlY hRT
  refine jq_use2 (P := fun r => jq_RT jq_zM X (some .boolean) (some (jI r)) σ) ?_ h hRT
  intro K0 hK0
  unfold X11_bothSit
  refine jq_aload_n Γ dX11_bothSit_0 rfl 0 rfl (jq_at_0 at_M_0) ?_
  refine jq_iload_n Γ dX11_bothSit_1 rfl 1 rfl ?_
  refine jq_cpI (jq_virt (avs := [jI p1]) (st := []) Γ hlY rfl ml_RX11_257 rfl at_M_0 rfl rfl rfl rfl rfl dX11_bothSit_2) (fun r h => ctX11_seatOf h) (fun v1 => ?_)
  refine jq_iconst Γ dX11_bothSit_5 rfl ?_
  refine jq_icmp_eq (tgt := 22) Γ dX11_bothSit_6 rfl ?_ ?_
  · refine jq_iconst Γ dX11_bothSit_22 rfl ?_
    exact jq_zreturn Γ (Or.inl rfl) dX11_bothSit_23 (hK0 _)
  · refine jq_aload_n Γ dX11_bothSit_9 rfl 0 rfl (jq_at_0 at_M_0) ?_
    refine jq_iload_n Γ dX11_bothSit_10 rfl 2 rfl ?_
    refine jq_cpI (jq_virt (avs := [jI p2]) (st := []) Γ hlY rfl ml_RX11_257 rfl at_M_0 rfl rfl rfl rfl rfl dX11_bothSit_11) (fun r h => ctX11_seatOf h) (fun v2 => ?_)
    refine jq_iconst Γ dX11_bothSit_14 rfl ?_
    refine jq_icmp_eq (tgt := 22) Γ dX11_bothSit_15 rfl ?_ ?_
    · refine jq_iconst Γ dX11_bothSit_22 rfl ?_
      exact jq_zreturn Γ (Or.inl rfl) dX11_bothSit_23 (hK0 _)
    · refine jq_iconst Γ dX11_bothSit_18 rfl ?_
      refine jq_goto Γ (tgt := 23) dX11_bothSit_19 rfl ?_
      exact jq_zreturn Γ (Or.inr rfl) dX11_bothSit_23 (hK0 _)


theorem dX11_beside_0 : decode cX11_beside 0 = .ok (.aload_n 0, 1) := by decide +kernel
theorem dX11_beside_1 : decode cX11_beside 1 = .ok (.iload_n 1, 1) := by decide +kernel
theorem dX11_beside_2 : decode cX11_beside 2 = .ok (.iload_n 2, 1) := by decide +kernel
theorem dX11_beside_3 : decode cX11_beside 3 = .ok (.invokevirtual 326, 3) := by decide +kernel
theorem dX11_beside_6 : decode cX11_beside 6 = .ok (.ifCond .eq 41, 3) := by decide +kernel
theorem dX11_beside_9 : decode cX11_beside 9 = .ok (.aload_n 0, 1) := by decide +kernel
theorem dX11_beside_10 : decode cX11_beside 10 = .ok (.aload_n 0, 1) := by decide +kernel
theorem dX11_beside_11 : decode cX11_beside 11 = .ok (.iload_n 1, 1) := by decide +kernel
theorem dX11_beside_12 : decode cX11_beside 12 = .ok (.iload_n 2, 1) := by decide +kernel
theorem dX11_beside_13 : decode cX11_beside 13 = .ok (.invokevirtual 329, 3) := by decide +kernel
theorem dX11_beside_16 : decode cX11_beside 16 = .ok (.ifCond .eq 24, 3) := by decide +kernel
theorem dX11_beside_19 : decode cX11_beside 19 = .ok (.aload_n 0, 1) := by decide +kernel
theorem dX11_beside_20 : decode cX11_beside 20 = .ok (.aload_n 0, 1) := by decide +kernel
theorem dX11_beside_21 : decode cX11_beside 21 = .ok (.iload_n 1, 1) := by decide +kernel
theorem dX11_beside_22 : decode cX11_beside 22 = .ok (.invokevirtual 257, 3) := by decide +kernel
theorem dX11_beside_25 : decode cX11_beside 25 = .ok (.aload_n 0, 1) := by decide +kernel
theorem dX11_beside_26 : decode cX11_beside 26 = .ok (.iload_n 2, 1) := by decide +kernel
theorem dX11_beside_27 : decode cX11_beside 27 = .ok (.invokevirtual 257, 3) := by decide +kernel
theorem dX11_beside_30 : decode cX11_beside 30 = .ok (.invokevirtual 269, 3) := by decide +kernel
theorem dX11_beside_33 : decode cX11_beside 33 = .ok (.ifCond .eq 7, 3) := by decide +kernel
theorem dX11_beside_36 : decode cX11_beside 36 = .ok (.iconst 1, 1) := by decide +kernel
theorem dX11_beside_37 : decode cX11_beside 37 = .ok (.goto 4, 3) := by decide +kernel
theorem dX11_beside_40 : decode cX11_beside 40 = .ok (.iconst 0, 1) := by decide +kernel
theorem dX11_beside_41 : decode cX11_beside 41 = .ok (.invokevirtual 88, 3) := by decide +kernel
theorem dX11_beside_44 : decode cX11_beside 44 = .ok (.goto 8, 3) := by decide +kernel
theorem dX11_beside_47 : decode cX11_beside 47 = .ok (.aload_n 0, 1) := by decide +kernel
theorem dX11_beside_48 : decode cX11_beside 48 = .ok (.iconst 1, 1) := by decide +kernel
theorem dX11_beside_49 : decode cX11_beside 49 = .ok (.invokevirtual 84, 3) := by decide +kernel
theorem dX11_beside_52 : decode cX11_beside 52 = .ok (.ireturn, 1) := by decide +kernel
set_option maxHeartbeats 4000000 in
set_option maxRecDepth 100000 in
theorem ctX11_beside {p1 : Int} {p2 : Int} {σ : jq_M} {res : Int} {σ' : jq_M}  (h : X11_beside p1 p2 σ = some (res, σ')) : jq_MC jq_zM yX11_beside cX11_beside 3 (some .int) 4 103 [jR 0, jI p1, jI p2] σ (some (jI res)) σ' := by
  refine jq_met (own := RX11) (L0 := [(0, jR 0), (1, jI p1), (2, jI p2)]) (by decide) rfl rfl rfl ?_
  intro X Γ hnl hlY hRT
  refine jq_use2 (P := fun r => jq_RT jq_zM X (some .int) (some (jI r.1)) r.2) ?_ h hRT
  intro K0 hK0
  unfold X11_beside
  have hj41_0 : ∀ (j8 : Int) (s10 : jq_M) (hz9 : j8 = 0 ∨ j8 = 1), jq_J (X11_beside_j41 j8 s10) K0 (jq_V jq_zM X (jq_zN jq_zM) s10 41 [] [jI j8, jR 0]) := by
    intro j8 s10 hz9
    unfold X11_beside_j41
    refine jq_cwI (jq_virt (avs := [jI j8]) (st := []) Γ hlY rfl ml_RX11_88 rfl at_M_0 rfl rfl rfl rfl rfl dX11_beside_41) (fun r σ' h => ctX11_gives h) (fun v11 s12 => ?_)
    refine jq_goto Γ (tgt := 52) dX11_beside_44 rfl ?_
    exact jq_ireturn Γ dX11_beside_52 (hK0 _)
  have hj40_0 : ∀ (s7 : jq_M), jq_J (X11_beside_j40 s7) K0 (jq_V jq_zM X (jq_zN jq_zM) s7 40 [] [jR 0]) := by
    intro s7
    unfold X11_beside_j40
    refine jq_iconst Γ dX11_beside_40 rfl ?_
    exact hj41_0 0 s7 (Or.inl rfl)
  refine jq_aload_n Γ dX11_beside_0 rfl 0 rfl (jq_at_0 at_M_0) ?_
  refine jq_iload_n Γ dX11_beside_1 rfl 1 rfl ?_
  refine jq_iload_n Γ dX11_beside_2 rfl 2 rfl ?_
  refine jq_cpZ (jq_virt (avs := [jI p1, jI p2]) (st := []) Γ hlY rfl ml_RX11_326 rfl at_M_0 rfl rfl rfl rfl rfl dX11_beside_3) rfl (fun r h => ctX11_areTwo h) (fun v1 hz2 => ?_)
  refine jq_if_eq (tgt := 47) Γ dX11_beside_6 rfl ?_ ?_
  · refine jq_aload_n Γ dX11_beside_47 rfl 0 rfl (jq_at_0 at_M_0) ?_
    refine jq_iconst Γ dX11_beside_48 rfl ?_
    refine jq_cwI (jq_virt (avs := [jI 1]) (st := []) Γ hlY rfl ml_RX11_84 rfl at_M_0 rfl rfl rfl rfl rfl dX11_beside_49) (fun r σ' h => ctX11_refuse h) (fun v3 s4 => ?_)
    exact jq_ireturn Γ dX11_beside_52 (hK0 _)
  · refine jq_aload_n Γ dX11_beside_9 rfl 0 rfl (jq_at_0 at_M_0) ?_
    refine jq_aload_n Γ dX11_beside_10 rfl 0 rfl (jq_at_0 at_M_0) ?_
    refine jq_iload_n Γ dX11_beside_11 rfl 1 rfl ?_
    refine jq_iload_n Γ dX11_beside_12 rfl 2 rfl ?_
    refine jq_cpZ (jq_virt (avs := [jI p1, jI p2]) (st := [jR 0]) Γ hlY rfl ml_RX11_329 rfl at_M_0 rfl rfl rfl rfl rfl dX11_beside_13) rfl (fun r h => ctX11_bothSit h) (fun v5 hz6 => ?_)
    refine jq_if_eq (tgt := 40) Γ dX11_beside_16 rfl ?_ ?_
    · refine jq_sub Γ (L' := []) [] rfl ?_
      exact hj40_0 σ
    · refine jq_aload_n Γ dX11_beside_19 rfl 0 rfl (jq_at_0 at_M_0) ?_
      refine jq_aload_n Γ dX11_beside_20 rfl 0 rfl (jq_at_0 at_M_0) ?_
      refine jq_iload_n Γ dX11_beside_21 rfl 1 rfl ?_
      refine jq_cpI (jq_virt (avs := [jI p1]) (st := [jR 0, jR 0]) Γ hlY rfl ml_RX11_257 rfl at_M_0 rfl rfl rfl rfl rfl dX11_beside_22) (fun r h => ctX11_seatOf h) (fun v13 => ?_)
      refine jq_aload_n Γ dX11_beside_25 rfl 0 rfl (jq_at_0 at_M_0) ?_
      refine jq_iload_n Γ dX11_beside_26 rfl 2 rfl ?_
      refine jq_cpI (jq_virt (avs := [jI p2]) (st := [jI v13, jR 0, jR 0]) Γ hlY rfl ml_RX11_257 rfl at_M_0 rfl rfl rfl rfl rfl dX11_beside_27) (fun r h => ctX11_seatOf h) (fun v14 => ?_)
      refine jq_cpZ (jq_virt (avs := [jI v13, jI v14]) (st := [jR 0]) Γ hlY rfl ml_RX11_269 rfl at_M_0 rfl rfl rfl rfl rfl dX11_beside_30) rfl (fun r h => ctX11_areBeside h) (fun v15 hz16 => ?_)
      refine jq_if_eq (tgt := 40) Γ dX11_beside_33 rfl ?_ ?_
      · refine jq_sub Γ (L' := []) [] rfl ?_
        exact hj40_0 σ
      · refine jq_iconst Γ dX11_beside_36 rfl ?_
        refine jq_goto Γ (tgt := 41) dX11_beside_37 rfl ?_
        refine jq_sub Γ (L' := []) [] rfl ?_
        exact hj41_0 1 σ (Or.inr rfl)


theorem dX11_facing_0 : decode cX11_facing 0 = .ok (.aload_n 0, 1) := by decide +kernel
theorem dX11_facing_1 : decode cX11_facing 1 = .ok (.iload_n 1, 1) := by decide +kernel
theorem dX11_facing_2 : decode cX11_facing 2 = .ok (.iload_n 2, 1) := by decide +kernel
theorem dX11_facing_3 : decode cX11_facing 3 = .ok (.invokevirtual 326, 3) := by decide +kernel
theorem dX11_facing_6 : decode cX11_facing 6 = .ok (.ifCond .eq 41, 3) := by decide +kernel
theorem dX11_facing_9 : decode cX11_facing 9 = .ok (.aload_n 0, 1) := by decide +kernel
theorem dX11_facing_10 : decode cX11_facing 10 = .ok (.aload_n 0, 1) := by decide +kernel
theorem dX11_facing_11 : decode cX11_facing 11 = .ok (.iload_n 1, 1) := by decide +kernel
theorem dX11_facing_12 : decode cX11_facing 12 = .ok (.iload_n 2, 1) := by decide +kernel
theorem dX11_facing_13 : decode cX11_facing 13 = .ok (.invokevirtual 329, 3) := by decide +kernel
theorem dX11_facing_16 : decode cX11_facing 16 = .ok (.ifCond .eq 24, 3) := by decide +kernel
theorem dX11_facing_19 : decode cX11_facing 19 = .ok (.aload_n 0, 1) := by decide +kernel
theorem dX11_facing_20 : decode cX11_facing 20 = .ok (.aload_n 0, 1) := by decide +kernel
theorem dX11_facing_21 : decode cX11_facing 21 = .ok (.iload_n 1, 1) := by decide +kernel
theorem dX11_facing_22 : decode cX11_facing 22 = .ok (.invokevirtual 257, 3) := by decide +kernel
theorem dX11_facing_25 : decode cX11_facing 25 = .ok (.aload_n 0, 1) := by decide +kernel
theorem dX11_facing_26 : decode cX11_facing 26 = .ok (.iload_n 2, 1) := by decide +kernel
theorem dX11_facing_27 : decode cX11_facing 27 = .ok (.invokevirtual 257, 3) := by decide +kernel
theorem dX11_facing_30 : decode cX11_facing 30 = .ok (.invokevirtual 272, 3) := by decide +kernel
theorem dX11_facing_33 : decode cX11_facing 33 = .ok (.ifCond .eq 7, 3) := by decide +kernel
theorem dX11_facing_36 : decode cX11_facing 36 = .ok (.iconst 1, 1) := by decide +kernel
theorem dX11_facing_37 : decode cX11_facing 37 = .ok (.goto 4, 3) := by decide +kernel
theorem dX11_facing_40 : decode cX11_facing 40 = .ok (.iconst 0, 1) := by decide +kernel
theorem dX11_facing_41 : decode cX11_facing 41 = .ok (.invokevirtual 88, 3) := by decide +kernel
theorem dX11_facing_44 : decode cX11_facing 44 = .ok (.goto 8, 3) := by decide +kernel
theorem dX11_facing_47 : decode cX11_facing 47 = .ok (.aload_n 0, 1) := by decide +kernel
theorem dX11_facing_48 : decode cX11_facing 48 = .ok (.iconst 1, 1) := by decide +kernel
theorem dX11_facing_49 : decode cX11_facing 49 = .ok (.invokevirtual 84, 3) := by decide +kernel
theorem dX11_facing_52 : decode cX11_facing 52 = .ok (.ireturn, 1) := by decide +kernel
set_option maxHeartbeats 4000000 in
set_option maxRecDepth 100000 in
theorem ctX11_facing {p1 : Int} {p2 : Int} {σ : jq_M} {res : Int} {σ' : jq_M}  (h : X11_facing p1 p2 σ = some (res, σ')) : jq_MC jq_zM yX11_facing cX11_facing 3 (some .int) 4 103 [jR 0, jI p1, jI p2] σ (some (jI res)) σ' := by
  refine jq_met (own := RX11) (L0 := [(0, jR 0), (1, jI p1), (2, jI p2)]) (by decide) rfl rfl rfl ?_
  intro X Γ hnl hlY hRT
  refine jq_use2 (P := fun r => jq_RT jq_zM X (some .int) (some (jI r.1)) r.2) ?_ h hRT
  intro K0 hK0
  unfold X11_facing
  have hj41_0 : ∀ (j8 : Int) (s10 : jq_M) (hz9 : j8 = 0 ∨ j8 = 1), jq_J (X11_facing_j41 j8 s10) K0 (jq_V jq_zM X (jq_zN jq_zM) s10 41 [] [jI j8, jR 0]) := by
    intro j8 s10 hz9
    unfold X11_facing_j41
    refine jq_cwI (jq_virt (avs := [jI j8]) (st := []) Γ hlY rfl ml_RX11_88 rfl at_M_0 rfl rfl rfl rfl rfl dX11_facing_41) (fun r σ' h => ctX11_gives h) (fun v11 s12 => ?_)
    refine jq_goto Γ (tgt := 52) dX11_facing_44 rfl ?_
    exact jq_ireturn Γ dX11_facing_52 (hK0 _)
  have hj40_0 : ∀ (s7 : jq_M), jq_J (X11_facing_j40 s7) K0 (jq_V jq_zM X (jq_zN jq_zM) s7 40 [] [jR 0]) := by
    intro s7
    unfold X11_facing_j40
    refine jq_iconst Γ dX11_facing_40 rfl ?_
    exact hj41_0 0 s7 (Or.inl rfl)
  refine jq_aload_n Γ dX11_facing_0 rfl 0 rfl (jq_at_0 at_M_0) ?_
  refine jq_iload_n Γ dX11_facing_1 rfl 1 rfl ?_
  refine jq_iload_n Γ dX11_facing_2 rfl 2 rfl ?_
  refine jq_cpZ (jq_virt (avs := [jI p1, jI p2]) (st := []) Γ hlY rfl ml_RX11_326 rfl at_M_0 rfl rfl rfl rfl rfl dX11_facing_3) rfl (fun r h => ctX11_areTwo h) (fun v1 hz2 => ?_)
  refine jq_if_eq (tgt := 47) Γ dX11_facing_6 rfl ?_ ?_
  · refine jq_aload_n Γ dX11_facing_47 rfl 0 rfl (jq_at_0 at_M_0) ?_
    refine jq_iconst Γ dX11_facing_48 rfl ?_
    refine jq_cwI (jq_virt (avs := [jI 1]) (st := []) Γ hlY rfl ml_RX11_84 rfl at_M_0 rfl rfl rfl rfl rfl dX11_facing_49) (fun r σ' h => ctX11_refuse h) (fun v3 s4 => ?_)
    exact jq_ireturn Γ dX11_facing_52 (hK0 _)
  · refine jq_aload_n Γ dX11_facing_9 rfl 0 rfl (jq_at_0 at_M_0) ?_
    refine jq_aload_n Γ dX11_facing_10 rfl 0 rfl (jq_at_0 at_M_0) ?_
    refine jq_iload_n Γ dX11_facing_11 rfl 1 rfl ?_
    refine jq_iload_n Γ dX11_facing_12 rfl 2 rfl ?_
    refine jq_cpZ (jq_virt (avs := [jI p1, jI p2]) (st := [jR 0]) Γ hlY rfl ml_RX11_329 rfl at_M_0 rfl rfl rfl rfl rfl dX11_facing_13) rfl (fun r h => ctX11_bothSit h) (fun v5 hz6 => ?_)
    refine jq_if_eq (tgt := 40) Γ dX11_facing_16 rfl ?_ ?_
    · refine jq_sub Γ (L' := []) [] rfl ?_
      exact hj40_0 σ
    · refine jq_aload_n Γ dX11_facing_19 rfl 0 rfl (jq_at_0 at_M_0) ?_
      refine jq_aload_n Γ dX11_facing_20 rfl 0 rfl (jq_at_0 at_M_0) ?_
      refine jq_iload_n Γ dX11_facing_21 rfl 1 rfl ?_
      refine jq_cpI (jq_virt (avs := [jI p1]) (st := [jR 0, jR 0]) Γ hlY rfl ml_RX11_257 rfl at_M_0 rfl rfl rfl rfl rfl dX11_facing_22) (fun r h => ctX11_seatOf h) (fun v13 => ?_)
      refine jq_aload_n Γ dX11_facing_25 rfl 0 rfl (jq_at_0 at_M_0) ?_
      refine jq_iload_n Γ dX11_facing_26 rfl 2 rfl ?_
      refine jq_cpI (jq_virt (avs := [jI p2]) (st := [jI v13, jR 0, jR 0]) Γ hlY rfl ml_RX11_257 rfl at_M_0 rfl rfl rfl rfl rfl dX11_facing_27) (fun r h => ctX11_seatOf h) (fun v14 => ?_)
      refine jq_cpZ (jq_virt (avs := [jI v13, jI v14]) (st := [jR 0]) Γ hlY rfl ml_RX11_272 rfl at_M_0 rfl rfl rfl rfl rfl dX11_facing_30) rfl (fun r h => ctX11_areFacing h) (fun v15 hz16 => ?_)
      refine jq_if_eq (tgt := 40) Γ dX11_facing_33 rfl ?_ ?_
      · refine jq_sub Γ (L' := []) [] rfl ?_
        exact hj40_0 σ
      · refine jq_iconst Γ dX11_facing_36 rfl ?_
        refine jq_goto Γ (tgt := 41) dX11_facing_37 rfl ?_
        refine jq_sub Γ (L' := []) [] rfl ?_
        exact hj41_0 1 σ (Or.inr rfl)


theorem dX11_worth_0 : decode cX11_worth 0 = .ok (.aload_n 0, 1) := by decide +kernel
theorem dX11_worth_1 : decode cX11_worth 1 = .ok (.iload_n 1, 1) := by decide +kernel
theorem dX11_worth_2 : decode cX11_worth 2 = .ok (.invokevirtual 251, 3) := by decide +kernel
theorem dX11_worth_5 : decode cX11_worth 5 = .ok (.ifCond .ne 9, 3) := by decide +kernel
theorem dX11_worth_8 : decode cX11_worth 8 = .ok (.aload_n 0, 1) := by decide +kernel
theorem dX11_worth_9 : decode cX11_worth 9 = .ok (.iconst 1, 1) := by decide +kernel
theorem dX11_worth_10 : decode cX11_worth 10 = .ok (.invokevirtual 84, 3) := by decide +kernel
theorem dX11_worth_13 : decode cX11_worth 13 = .ok (.ireturn, 1) := by decide +kernel
theorem dX11_worth_14 : decode cX11_worth 14 = .ok (.aload_n 0, 1) := by decide +kernel
theorem dX11_worth_15 : decode cX11_worth 15 = .ok (.invokevirtual 302, 3) := by decide +kernel
theorem dX11_worth_18 : decode cX11_worth 18 = .ok (.aload_n 0, 1) := by decide +kernel
theorem dX11_worth_19 : decode cX11_worth 19 = .ok (.aload_n 0, 1) := by decide +kernel
theorem dX11_worth_20 : decode cX11_worth 20 = .ok (.iload_n 1, 1) := by decide +kernel
theorem dX11_worth_21 : decode cX11_worth 21 = .ok (.invokevirtual 278, 3) := by decide +kernel
theorem dX11_worth_24 : decode cX11_worth 24 = .ok (.invokevirtual 88, 3) := by decide +kernel
theorem dX11_worth_27 : decode cX11_worth 27 = .ok (.ireturn, 1) := by decide +kernel
set_option maxHeartbeats 4000000 in
set_option maxRecDepth 100000 in
theorem ctX11_worth {p1 : Int} {σ : jq_M} {res : Int} {σ' : jq_M}  (h : X11_worth p1 σ = some (res, σ')) : jq_MC jq_zM yX11_worth cX11_worth 2 (some .int) 4 110 [jR 0, jI p1] σ (some (jI res)) σ' := by
  refine jq_met (own := RX11) (L0 := [(0, jR 0), (1, jI p1)]) (by decide) rfl rfl rfl ?_
  intro X Γ hnl hlY hRT
  refine jq_use2 (P := fun r => jq_RT jq_zM X (some .int) (some (jI r.1)) r.2) ?_ h hRT
  intro K0 hK0
  unfold X11_worth
  refine jq_aload_n Γ dX11_worth_0 rfl 0 rfl (jq_at_0 at_M_0) ?_
  refine jq_iload_n Γ dX11_worth_1 rfl 1 rfl ?_
  refine jq_cpZ (jq_virt (avs := [jI p1]) (st := []) Γ hlY rfl ml_RX11_251 rfl at_M_0 rfl rfl rfl rfl rfl dX11_worth_2) rfl (fun r h => ctX11_isParty h) (fun v1 hz2 => ?_)
  refine jq_if_ne (tgt := 14) Γ dX11_worth_5 rfl ?_ ?_
  · refine jq_aload_n Γ dX11_worth_14 rfl 0 rfl (jq_at_0 at_M_0) ?_
    refine jq_cwV (jq_virt (avs := []) (st := []) Γ hlY rfl ml_RX11_302 rfl at_M_0 rfl rfl rfl rfl rfl dX11_worth_15) (fun σ' h => ctX11_seatsNow h) (fun s3 => ?_)
    refine jq_aload_n Γ dX11_worth_18 rfl 0 rfl (jq_at_0 at_M_0) ?_
    refine jq_aload_n Γ dX11_worth_19 rfl 0 rfl (jq_at_0 at_M_0) ?_
    refine jq_iload_n Γ dX11_worth_20 rfl 1 rfl ?_
    refine jq_cpI (jq_virt (avs := [jI p1]) (st := [jR 0]) Γ hlY rfl ml_RX11_278 rfl at_M_0 rfl rfl rfl rfl rfl dX11_worth_21) (fun r h => ctX11_worthOf h) (fun v4 => ?_)
    refine jq_cwI (jq_virt (avs := [jI v4]) (st := []) Γ hlY rfl ml_RX11_88 rfl at_M_0 rfl rfl rfl rfl rfl dX11_worth_24) (fun r σ' h => ctX11_gives h) (fun v5 s6 => ?_)
    exact jq_ireturn Γ dX11_worth_27 (hK0 _)
  · refine jq_aload_n Γ dX11_worth_8 rfl 0 rfl (jq_at_0 at_M_0) ?_
    refine jq_iconst Γ dX11_worth_9 rfl ?_
    refine jq_cwI (jq_virt (avs := [jI 1]) (st := []) Γ hlY rfl ml_RX11_84 rfl at_M_0 rfl rfl rfl rfl rfl dX11_worth_10) (fun r σ' h => ctX11_refuse h) (fun v7 s8 => ?_)
    exact jq_ireturn Γ dX11_worth_13 (hK0 _)


theorem dX11_allWorth_0 : decode cX11_allWorth 0 = .ok (.aload_n 0, 1) := by decide +kernel
theorem dX11_allWorth_1 : decode cX11_allWorth 1 = .ok (.invokevirtual 302, 3) := by decide +kernel
theorem dX11_allWorth_4 : decode cX11_allWorth 4 = .ok (.aload_n 0, 1) := by decide +kernel
theorem dX11_allWorth_5 : decode cX11_allWorth 5 = .ok (.aload_n 0, 1) := by decide +kernel
theorem dX11_allWorth_6 : decode cX11_allWorth 6 = .ok (.invokevirtual 332, 3) := by decide +kernel
theorem dX11_allWorth_9 : decode cX11_allWorth 9 = .ok (.invokevirtual 88, 3) := by decide +kernel
theorem dX11_allWorth_12 : decode cX11_allWorth 12 = .ok (.ireturn, 1) := by decide +kernel
set_option maxHeartbeats 4000000 in
set_option maxRecDepth 100000 in
theorem ctX11_allWorth  {σ : jq_M} {res : Int} {σ' : jq_M}  (h : X11_allWorth σ = some (res, σ')) : jq_MC jq_zM yX11_allWorth cX11_allWorth 1 (some .int) 4 109 [jR 0] σ (some (jI res)) σ' := by
  refine jq_met (own := RX11) (L0 := [(0, jR 0)]) (by decide) rfl rfl rfl ?_
  intro X Γ hnl hlY hRT
  refine jq_use2 (P := fun r => jq_RT jq_zM X (some .int) (some (jI r.1)) r.2) ?_ h hRT
  intro K0 hK0
  unfold X11_allWorth
  refine jq_aload_n Γ dX11_allWorth_0 rfl 0 rfl (jq_at_0 at_M_0) ?_
  refine jq_cwV (jq_virt (avs := []) (st := []) Γ hlY rfl ml_RX11_302 rfl at_M_0 rfl rfl rfl rfl rfl dX11_allWorth_1) (fun σ' h => ctX11_seatsNow h) (fun s1 => ?_)
  refine jq_aload_n Γ dX11_allWorth_4 rfl 0 rfl (jq_at_0 at_M_0) ?_
  refine jq_aload_n Γ dX11_allWorth_5 rfl 0 rfl (jq_at_0 at_M_0) ?_
  refine jq_cpI (jq_virt (avs := []) (st := [jR 0]) Γ hlY rfl ml_RX11_332 rfl at_M_0 rfl rfl rfl rfl rfl dX11_allWorth_6) (fun r h => ctX11_worthOfAll h) (fun v2 => ?_)
  refine jq_cwI (jq_virt (avs := [jI v2]) (st := []) Γ hlY rfl ml_RX11_88 rfl at_M_0 rfl rfl rfl rfl rfl dX11_allWorth_9) (fun r σ' h => ctX11_gives h) (fun v3 s4 => ?_)
  exact jq_ireturn Γ dX11_allWorth_12 (hK0 _)


theorem dX11_signs_0 : decode cX11_signs 0 = .ok (.aload_n 0, 1) := by decide +kernel
theorem dX11_signs_1 : decode cX11_signs 1 = .ok (.iload_n 1, 1) := by decide +kernel
theorem dX11_signs_2 : decode cX11_signs 2 = .ok (.invokevirtual 251, 3) := by decide +kernel
theorem dX11_signs_5 : decode cX11_signs 5 = .ok (.ifCond .ne 9, 3) := by decide +kernel
theorem dX11_signs_8 : decode cX11_signs 8 = .ok (.aload_n 0, 1) := by decide +kernel
theorem dX11_signs_9 : decode cX11_signs 9 = .ok (.iconst 1, 1) := by decide +kernel
theorem dX11_signs_10 : decode cX11_signs 10 = .ok (.invokevirtual 84, 3) := by decide +kernel
theorem dX11_signs_13 : decode cX11_signs 13 = .ok (.ireturn, 1) := by decide +kernel
theorem dX11_signs_14 : decode cX11_signs 14 = .ok (.aload_n 0, 1) := by decide +kernel
theorem dX11_signs_15 : decode cX11_signs 15 = .ok (.invokevirtual 302, 3) := by decide +kernel
theorem dX11_signs_18 : decode cX11_signs 18 = .ok (.aload_n 0, 1) := by decide +kernel
theorem dX11_signs_19 : decode cX11_signs 19 = .ok (.aload_n 0, 1) := by decide +kernel
theorem dX11_signs_20 : decode cX11_signs 20 = .ok (.iload_n 1, 1) := by decide +kernel
theorem dX11_signs_21 : decode cX11_signs 21 = .ok (.invokevirtual 284, 3) := by decide +kernel
theorem dX11_signs_24 : decode cX11_signs 24 = .ok (.ifCond .eq 7, 3) := by decide +kernel
theorem dX11_signs_27 : decode cX11_signs 27 = .ok (.iconst 1, 1) := by decide +kernel
theorem dX11_signs_28 : decode cX11_signs 28 = .ok (.goto 4, 3) := by decide +kernel
theorem dX11_signs_31 : decode cX11_signs 31 = .ok (.iconst 0, 1) := by decide +kernel
theorem dX11_signs_32 : decode cX11_signs 32 = .ok (.invokevirtual 88, 3) := by decide +kernel
theorem dX11_signs_35 : decode cX11_signs 35 = .ok (.ireturn, 1) := by decide +kernel
set_option maxHeartbeats 4000000 in
set_option maxRecDepth 100000 in
theorem ctX11_signs {p1 : Int} {σ : jq_M} {res : Int} {σ' : jq_M}  (h : X11_signs p1 σ = some (res, σ')) : jq_MC jq_zM yX11_signs cX11_signs 2 (some .int) 5 131 [jR 0, jI p1] σ (some (jI res)) σ' := by
  refine jq_met (own := RX11) (L0 := [(0, jR 0), (1, jI p1)]) (by decide) rfl rfl rfl ?_
  intro X Γ hnl hlY hRT
  refine jq_use2 (P := fun r => jq_RT jq_zM X (some .int) (some (jI r.1)) r.2) ?_ h hRT
  intro K0 hK0
  unfold X11_signs
  have hj32_0 : ∀ (j6 : Int) (s8 : jq_M) (hz7 : j6 = 0 ∨ j6 = 1), jq_J (X11_signs_j32 j6 s8) K0 (jq_V jq_zM X (jq_zN jq_zM) s8 32 [] [jI j6, jR 0]) := by
    intro j6 s8 hz7
    unfold X11_signs_j32
    refine jq_cwI (jq_virt (avs := [jI j6]) (st := []) Γ hlY rfl ml_RX11_88 rfl at_M_0 rfl rfl rfl rfl rfl dX11_signs_32) (fun r σ' h => ctX11_gives h) (fun v9 s10 => ?_)
    exact jq_ireturn Γ dX11_signs_35 (hK0 _)
  refine jq_aload_n Γ dX11_signs_0 rfl 0 rfl (jq_at_0 at_M_0) ?_
  refine jq_iload_n Γ dX11_signs_1 rfl 1 rfl ?_
  refine jq_cpZ (jq_virt (avs := [jI p1]) (st := []) Γ hlY rfl ml_RX11_251 rfl at_M_0 rfl rfl rfl rfl rfl dX11_signs_2) rfl (fun r h => ctX11_isParty h) (fun v1 hz2 => ?_)
  refine jq_if_ne (tgt := 14) Γ dX11_signs_5 rfl ?_ ?_
  · refine jq_aload_n Γ dX11_signs_14 rfl 0 rfl (jq_at_0 at_M_0) ?_
    refine jq_cwV (jq_virt (avs := []) (st := []) Γ hlY rfl ml_RX11_302 rfl at_M_0 rfl rfl rfl rfl rfl dX11_signs_15) (fun σ' h => ctX11_seatsNow h) (fun s3 => ?_)
    refine jq_aload_n Γ dX11_signs_18 rfl 0 rfl (jq_at_0 at_M_0) ?_
    refine jq_aload_n Γ dX11_signs_19 rfl 0 rfl (jq_at_0 at_M_0) ?_
    refine jq_iload_n Γ dX11_signs_20 rfl 1 rfl ?_
    refine jq_cpZ (jq_virt (avs := [jI p1]) (st := [jR 0]) Γ hlY rfl ml_RX11_284 rfl at_M_0 rfl rfl rfl rfl rfl dX11_signs_21) rfl (fun r h => ctX11_doesSign h) (fun v4 hz5 => ?_)
    refine jq_if_eq (tgt := 31) Γ dX11_signs_24 rfl ?_ ?_
    · refine jq_iconst Γ dX11_signs_31 rfl ?_
      refine jq_sub Γ (L' := []) [] rfl ?_
      exact hj32_0 0 s3 (Or.inl rfl)
    · refine jq_iconst Γ dX11_signs_27 rfl ?_
      refine jq_goto Γ (tgt := 32) dX11_signs_28 rfl ?_
      refine jq_sub Γ (L' := []) [] rfl ?_
      exact hj32_0 1 s3 (Or.inr rfl)
  · refine jq_aload_n Γ dX11_signs_8 rfl 0 rfl (jq_at_0 at_M_0) ?_
    refine jq_iconst Γ dX11_signs_9 rfl ?_
    refine jq_cwI (jq_virt (avs := [jI 1]) (st := []) Γ hlY rfl ml_RX11_84 rfl at_M_0 rfl rfl rfl rfl rfl dX11_signs_10) (fun r σ' h => ctX11_refuse h) (fun v11 s12 => ?_)
    exact jq_ireturn Γ dX11_signs_13 (hK0 _)


theorem dX11_dearest_0 : decode cX11_dearest 0 = .ok (.aload_n 0, 1) := by decide +kernel
theorem dX11_dearest_1 : decode cX11_dearest 1 = .ok (.iload_n 1, 1) := by decide +kernel
theorem dX11_dearest_2 : decode cX11_dearest 2 = .ok (.invokevirtual 251, 3) := by decide +kernel
theorem dX11_dearest_5 : decode cX11_dearest 5 = .ok (.ifCond .ne 9, 3) := by decide +kernel
theorem dX11_dearest_8 : decode cX11_dearest 8 = .ok (.aload_n 0, 1) := by decide +kernel
theorem dX11_dearest_9 : decode cX11_dearest 9 = .ok (.iconst 1, 1) := by decide +kernel
theorem dX11_dearest_10 : decode cX11_dearest 10 = .ok (.invokevirtual 84, 3) := by decide +kernel
theorem dX11_dearest_13 : decode cX11_dearest 13 = .ok (.ireturn, 1) := by decide +kernel
theorem dX11_dearest_14 : decode cX11_dearest 14 = .ok (.aload_n 0, 1) := by decide +kernel
theorem dX11_dearest_15 : decode cX11_dearest 15 = .ok (.invokevirtual 302, 3) := by decide +kernel
theorem dX11_dearest_18 : decode cX11_dearest 18 = .ok (.iconst (-1), 1) := by decide +kernel
theorem dX11_dearest_19 : decode cX11_dearest 19 = .ok (.istore_n 2, 1) := by decide +kernel
theorem dX11_dearest_20 : decode cX11_dearest 20 = .ok (.iconst 0, 1) := by decide +kernel
theorem dX11_dearest_21 : decode cX11_dearest 21 = .ok (.istore_n 3, 1) := by decide +kernel
theorem dX11_dearest_22 : decode cX11_dearest 22 = .ok (.iconst 0, 1) := by decide +kernel
theorem dX11_dearest_23 : decode cX11_dearest 23 = .ok (.istore 4, 2) := by decide +kernel
theorem dX11_dearest_25 : decode cX11_dearest 25 = .ok (.iload 4, 2) := by decide +kernel
theorem dX11_dearest_27 : decode cX11_dearest 27 = .ok (.aload_n 0, 1) := by decide +kernel
theorem dX11_dearest_28 : decode cX11_dearest 28 = .ok (.getfield 7, 3) := by decide +kernel
theorem dX11_dearest_31 : decode cX11_dearest 31 = .ok (.iconst 2, 1) := by decide +kernel
theorem dX11_dearest_32 : decode cX11_dearest 32 = .ok (.iaload, 1) := by decide +kernel
theorem dX11_dearest_33 : decode cX11_dearest 33 = .ok (.if_icmp .ge 67, 3) := by decide +kernel
theorem dX11_dearest_36 : decode cX11_dearest 36 = .ok (.aload_n 0, 1) := by decide +kernel
theorem dX11_dearest_37 : decode cX11_dearest 37 = .ok (.getfield 7, 3) := by decide +kernel
theorem dX11_dearest_40 : decode cX11_dearest 40 = .ok (.iload 4, 2) := by decide +kernel
theorem dX11_dearest_42 : decode cX11_dearest 42 = .ok (.invokestatic 263, 3) := by decide +kernel
theorem dX11_dearest_45 : decode cX11_dearest 45 = .ok (.iaload, 1) := by decide +kernel
theorem dX11_dearest_46 : decode cX11_dearest 46 = .ok (.iload_n 1, 1) := by decide +kernel
theorem dX11_dearest_47 : decode cX11_dearest 47 = .ok (.if_icmp .ne 47, 3) := by decide +kernel
theorem dX11_dearest_50 : decode cX11_dearest 50 = .ok (.aload_n 0, 1) := by decide +kernel
theorem dX11_dearest_51 : decode cX11_dearest 51 = .ok (.iload 4, 2) := by decide +kernel
theorem dX11_dearest_53 : decode cX11_dearest 53 = .ok (.invokevirtual 275, 3) := by decide +kernel
theorem dX11_dearest_56 : decode cX11_dearest 56 = .ok (.ifCond .eq 38, 3) := by decide +kernel
theorem dX11_dearest_59 : decode cX11_dearest 59 = .ok (.aload_n 0, 1) := by decide +kernel
theorem dX11_dearest_60 : decode cX11_dearest 60 = .ok (.getfield 7, 3) := by decide +kernel
theorem dX11_dearest_63 : decode cX11_dearest 63 = .ok (.iload 4, 2) := by decide +kernel
theorem dX11_dearest_65 : decode cX11_dearest 65 = .ok (.invokestatic 263, 3) := by decide +kernel
theorem dX11_dearest_68 : decode cX11_dearest 68 = .ok (.iconst 3, 1) := by decide +kernel
theorem dX11_dearest_69 : decode cX11_dearest 69 = .ok (.iadd, 1) := by decide +kernel
theorem dX11_dearest_70 : decode cX11_dearest 70 = .ok (.iaload, 1) := by decide +kernel
theorem dX11_dearest_71 : decode cX11_dearest 71 = .ok (.iload_n 3, 1) := by decide +kernel
theorem dX11_dearest_72 : decode cX11_dearest 72 = .ok (.if_icmp .gt 6, 3) := by decide +kernel
theorem dX11_dearest_75 : decode cX11_dearest 75 = .ok (.goto 19, 3) := by decide +kernel
theorem dX11_dearest_78 : decode cX11_dearest 78 = .ok (.aload_n 0, 1) := by decide +kernel
theorem dX11_dearest_79 : decode cX11_dearest 79 = .ok (.getfield 7, 3) := by decide +kernel
theorem dX11_dearest_82 : decode cX11_dearest 82 = .ok (.iload 4, 2) := by decide +kernel
theorem dX11_dearest_84 : decode cX11_dearest 84 = .ok (.invokestatic 263, 3) := by decide +kernel
theorem dX11_dearest_87 : decode cX11_dearest 87 = .ok (.iconst 3, 1) := by decide +kernel
theorem dX11_dearest_88 : decode cX11_dearest 88 = .ok (.iadd, 1) := by decide +kernel
theorem dX11_dearest_89 : decode cX11_dearest 89 = .ok (.iaload, 1) := by decide +kernel
theorem dX11_dearest_90 : decode cX11_dearest 90 = .ok (.istore_n 3, 1) := by decide +kernel
theorem dX11_dearest_91 : decode cX11_dearest 91 = .ok (.iload 4, 2) := by decide +kernel
theorem dX11_dearest_93 : decode cX11_dearest 93 = .ok (.istore_n 2, 1) := by decide +kernel
theorem dX11_dearest_94 : decode cX11_dearest 94 = .ok (.iinc 4 1, 3) := by decide +kernel
theorem dX11_dearest_97 : decode cX11_dearest 97 = .ok (.goto (-72), 3) := by decide +kernel
theorem dX11_dearest_100 : decode cX11_dearest 100 = .ok (.aload_n 0, 1) := by decide +kernel
theorem dX11_dearest_101 : decode cX11_dearest 101 = .ok (.iload_n 2, 1) := by decide +kernel
theorem dX11_dearest_102 : decode cX11_dearest 102 = .ok (.invokevirtual 320, 3) := by decide +kernel
theorem dX11_dearest_105 : decode cX11_dearest 105 = .ok (.ireturn, 1) := by decide +kernel
set_option maxHeartbeats 4000000 in
set_option maxRecDepth 100000 in
theorem ctX11_dearest {p1 : Int} {σ : jq_M} {res : Int} {σ' : jq_M}  (h : X11_dearest p1 σ = some (res, σ')) : jq_MC jq_zM yX11_dearest cX11_dearest 5 (some .int) 4 102 [jR 0, jI p1] σ (some (jI res)) σ' := by
  refine jq_met (own := RX11) (L0 := [(0, jR 0), (1, jI p1)]) (by decide) rfl rfl rfl ?_
  intro X Γ hnl hlY hRT
  refine jq_use2 (P := fun r => jq_RT jq_zM X (some .int) (some (jI r.1)) r.2) ?_ h hRT
  intro K0 hK0
  unfold X11_dearest
  refine jq_aload_n Γ dX11_dearest_0 rfl 0 rfl (jq_at_0 at_M_0) ?_
  refine jq_iload_n Γ dX11_dearest_1 rfl 1 rfl ?_
  refine jq_cpZ (jq_virt (avs := [jI p1]) (st := []) Γ hlY rfl ml_RX11_251 rfl at_M_0 rfl rfl rfl rfl rfl dX11_dearest_2) rfl (fun r h => ctX11_isParty h) (fun v1 hz2 => ?_)
  refine jq_if_ne (tgt := 14) Γ dX11_dearest_5 rfl ?_ ?_
  · refine jq_aload_n Γ dX11_dearest_14 rfl 0 rfl (jq_at_0 at_M_0) ?_
    refine jq_cwV (jq_virt (avs := []) (st := []) Γ hlY rfl ml_RX11_302 rfl at_M_0 rfl rfl rfl rfl rfl dX11_dearest_15) (fun σ' h => ctX11_seatsNow h) (fun s3 => ?_)
    refine jq_iconst Γ dX11_dearest_18 rfl ?_
    refine jq_istore_n (L' := [(2, jI (-1)), (0, jR 0), (1, jI p1)]) Γ dX11_dearest_19 rfl hnl rfl rfl ?_
    refine jq_iconst Γ dX11_dearest_20 rfl ?_
    refine jq_istore_n (L' := [(3, jI 0), (2, jI (-1)), (0, jR 0), (1, jI p1)]) Γ dX11_dearest_21 rfl hnl rfl rfl ?_
    refine jq_iconst Γ dX11_dearest_22 rfl ?_
    refine jq_istore (L' := [(4, jI 0), (3, jI 0), (2, jI (-1)), (0, jR 0), (1, jI p1)]) Γ dX11_dearest_23 hnl rfl rfl ?_
    refine jq_sub Γ (L' := [(0, jR 0), (1, jI p1), (2, jI (-1)), (3, jI 0), (4, jI 0)]) [3, 4, 2, 1, 0] rfl ?_
    refine jq_loop2 (C := fun (t4 : Int × Int × Int) => jq_V jq_zM X (jq_zN jq_zM) s3 25 [(0, jR 0), (1, jI p1), (2, jI t4.1), (3, jI t4.2.1), (4, jI t4.2.2)] []) (KX := fun (e18 : Int) => jq_V jq_zM X (jq_zN jq_zM) s3 100 [(0, jR 0), (2, jI e18)] []) ?_ ?_ ((-1), 0, 0)
    · intro K25_t4 hCt4 hXt4 t4
      unfold X11_dearest_b25
      refine jq_iload Γ dX11_dearest_25 4 rfl ?_
      refine jq_aload_n Γ dX11_dearest_27 rfl 0 rfl (jq_at_0 at_M_0) ?_
      refine jq_getR (v := 1) Γ hlY at_M_0 fl_RX11_7 rfl rfl ly_X11_at dX11_dearest_28 ?_
      refine jq_iconst Γ dX11_dearest_31 rfl ?_
      refine jq_iald Γ at_M_1 rfl dX11_dearest_32 (fun v5 => ?_)
      refine jq_icmp_ge (tgt := 100) Γ dX11_dearest_33 rfl ?_ ?_
      · refine jq_sub Γ (L' := [(0, jR 0), (2, jI t4.1)]) [0, 2] rfl ?_
        exact jq_done (hXt4 t4.1)
      · refine jq_aload_n Γ dX11_dearest_36 rfl 0 rfl (jq_at_0 at_M_0) ?_
        refine jq_getR (v := 1) Γ hlY at_M_0 fl_RX11_7 rfl rfl ly_X11_at dX11_dearest_37 ?_
        refine jq_iload Γ dX11_dearest_40 4 rfl ?_
        refine jq_cpI (jq_stat (avs := [jI t4.2.2]) (st := [jR 1]) Γ hlY rfl ml_RX11_263 rfl rfl rfl rfl rfl dX11_dearest_42) (fun r h => ctX11_wishRow h) (fun v6 => ?_)
        refine jq_iald Γ at_M_1 rfl dX11_dearest_45 (fun v7 => ?_)
        refine jq_iload_n Γ dX11_dearest_46 rfl 1 rfl ?_
        refine jq_icmp_ne (tgt := 94) Γ dX11_dearest_47 rfl ?_ ?_
        · refine jq_iincN (L' := fun v8 => [(4, jI v8), (0, jR 0), (1, jI p1), (2, jI t4.1), (3, jI t4.2.1)]) Γ dX11_dearest_94 4 rfl hnl rfl (fun _ => rfl) (fun v8 => ?_)
          refine jq_goto Γ (tgt := 25) dX11_dearest_97 rfl ?_
          refine jq_sub Γ (L' := [(0, jR 0), (1, jI p1), (2, jI t4.1), (3, jI t4.2.1), (4, jI v8)]) [1, 2, 3, 4, 0] rfl ?_
          exact jq_done (hCt4 (t4.1, t4.2.1, v8))
        · refine jq_aload_n Γ dX11_dearest_50 rfl 0 rfl (jq_at_0 at_M_0) ?_
          refine jq_iload Γ dX11_dearest_51 4 rfl ?_
          refine jq_cpZ (jq_virt (avs := [jI t4.2.2]) (st := []) Γ hlY rfl ml_RX11_275 rfl at_M_0 rfl rfl rfl rfl rfl dX11_dearest_53) rfl (fun r h => ctX11_isHad h) (fun v9 hz10 => ?_)
          refine jq_if_eq (tgt := 94) Γ dX11_dearest_56 rfl ?_ ?_
          · refine jq_iincN (L' := fun v11 => [(4, jI v11), (0, jR 0), (1, jI p1), (2, jI t4.1), (3, jI t4.2.1)]) Γ dX11_dearest_94 4 rfl hnl rfl (fun _ => rfl) (fun v11 => ?_)
            refine jq_goto Γ (tgt := 25) dX11_dearest_97 rfl ?_
            refine jq_sub Γ (L' := [(0, jR 0), (1, jI p1), (2, jI t4.1), (3, jI t4.2.1), (4, jI v11)]) [1, 2, 3, 4, 0] rfl ?_
            exact jq_done (hCt4 (t4.1, t4.2.1, v11))
          · refine jq_aload_n Γ dX11_dearest_59 rfl 0 rfl (jq_at_0 at_M_0) ?_
            refine jq_getR (v := 1) Γ hlY at_M_0 fl_RX11_7 rfl rfl ly_X11_at dX11_dearest_60 ?_
            refine jq_iload Γ dX11_dearest_63 4 rfl ?_
            refine jq_cpI (jq_stat (avs := [jI t4.2.2]) (st := [jR 1]) Γ hlY rfl ml_RX11_263 rfl rfl rfl rfl rfl dX11_dearest_65) (fun r h => ctX11_wishRow h) (fun v12 => ?_)
            refine jq_iconst Γ dX11_dearest_68 rfl ?_
            refine jq_iadd Γ dX11_dearest_69 ?_
            refine jq_iald Γ at_M_1 rfl dX11_dearest_70 (fun v13 => ?_)
            refine jq_iload_n Γ dX11_dearest_71 rfl 3 rfl ?_
            refine jq_icmp_gt (tgt := 78) Γ dX11_dearest_72 rfl ?_ ?_
            · refine jq_aload_n Γ dX11_dearest_78 rfl 0 rfl (jq_at_0 at_M_0) ?_
              refine jq_getR (v := 1) Γ hlY at_M_0 fl_RX11_7 rfl rfl ly_X11_at dX11_dearest_79 ?_
              refine jq_iload Γ dX11_dearest_82 4 rfl ?_
              refine jq_cpI (jq_stat (avs := [jI t4.2.2]) (st := [jR 1]) Γ hlY rfl ml_RX11_263 rfl rfl rfl rfl rfl dX11_dearest_84) (fun r h => ctX11_wishRow h) (fun v14 => ?_)
              refine jq_iconst Γ dX11_dearest_87 rfl ?_
              refine jq_iadd Γ dX11_dearest_88 ?_
              refine jq_iald Γ at_M_1 rfl dX11_dearest_89 (fun v15 => ?_)
              refine jq_istore_n (L' := [(3, jI v15), (0, jR 0), (1, jI p1), (2, jI t4.1), (4, jI t4.2.2)]) Γ dX11_dearest_90 rfl hnl rfl rfl ?_
              refine jq_iload Γ dX11_dearest_91 4 rfl ?_
              refine jq_istore_n (L' := [(2, jI t4.2.2), (3, jI v15), (0, jR 0), (1, jI p1), (4, jI t4.2.2)]) Γ dX11_dearest_93 rfl hnl rfl rfl ?_
              refine jq_iincN (L' := fun v16 => [(4, jI v16), (2, jI t4.2.2), (3, jI v15), (0, jR 0), (1, jI p1)]) Γ dX11_dearest_94 4 rfl hnl rfl (fun _ => rfl) (fun v16 => ?_)
              refine jq_goto Γ (tgt := 25) dX11_dearest_97 rfl ?_
              refine jq_sub Γ (L' := [(0, jR 0), (1, jI p1), (2, jI t4.2.2), (3, jI v15), (4, jI v16)]) [3, 4, 1, 2, 0] rfl ?_
              exact jq_done (hCt4 (t4.2.2, v15, v16))
            · refine jq_goto Γ (tgt := 94) dX11_dearest_75 rfl ?_
              refine jq_iincN (L' := fun v17 => [(4, jI v17), (0, jR 0), (1, jI p1), (2, jI t4.1), (3, jI t4.2.1)]) Γ dX11_dearest_94 4 rfl hnl rfl (fun _ => rfl) (fun v17 => ?_)
              refine jq_goto Γ (tgt := 25) dX11_dearest_97 rfl ?_
              refine jq_sub Γ (L' := [(0, jR 0), (1, jI p1), (2, jI t4.1), (3, jI t4.2.1), (4, jI v17)]) [1, 2, 3, 4, 0] rfl ?_
              exact jq_done (hCt4 (t4.1, t4.2.1, v17))
    · intro e18
      refine jq_aload_n Γ dX11_dearest_100 rfl 0 rfl (jq_at_0 at_M_0) ?_
      refine jq_iload_n Γ dX11_dearest_101 rfl 1 rfl ?_
      refine jq_cwI (jq_virt (avs := [jI e18]) (st := []) Γ hlY rfl ml_RX11_320 rfl at_M_0 rfl rfl rfl rfl rfl dX11_dearest_102) (fun r σ' h => ctX11_orNone h) (fun v19 s20 => ?_)
      exact jq_ireturn Γ dX11_dearest_105 (hK0 _)
  · refine jq_aload_n Γ dX11_dearest_8 rfl 0 rfl (jq_at_0 at_M_0) ?_
    refine jq_iconst Γ dX11_dearest_9 rfl ?_
    refine jq_cwI (jq_virt (avs := [jI 1]) (st := []) Γ hlY rfl ml_RX11_84 rfl at_M_0 rfl rfl rfl rfl rfl dX11_dearest_10) (fun r σ' h => ctX11_refuse h) (fun v21 s22 => ?_)
    exact jq_ireturn Γ dX11_dearest_13 (hK0 _)


theorem dX11_sits_0 : decode cX11_sits 0 = .ok (.aload_n 0, 1) := by decide +kernel
theorem dX11_sits_1 : decode cX11_sits 1 = .ok (.iload_n 2, 1) := by decide +kernel
theorem dX11_sits_2 : decode cX11_sits 2 = .ok (.invokevirtual 317, 3) := by decide +kernel
theorem dX11_sits_5 : decode cX11_sits 5 = .ok (.istore_n 3, 1) := by decide +kernel
theorem dX11_sits_6 : decode cX11_sits 6 = .ok (.iload_n 3, 1) := by decide +kernel
theorem dX11_sits_7 : decode cX11_sits 7 = .ok (.iconst (-1), 1) := by decide +kernel
theorem dX11_sits_8 : decode cX11_sits 8 = .ok (.if_icmp .eq 10, 3) := by decide +kernel
theorem dX11_sits_11 : decode cX11_sits 11 = .ok (.iload_n 3, 1) := by decide +kernel
theorem dX11_sits_12 : decode cX11_sits 12 = .ok (.iload_n 1, 1) := by decide +kernel
theorem dX11_sits_13 : decode cX11_sits 13 = .ok (.if_icmp .eq 5, 3) := by decide +kernel
theorem dX11_sits_16 : decode cX11_sits 16 = .ok (.iconst 0, 1) := by decide +kernel
theorem dX11_sits_17 : decode cX11_sits 17 = .ok (.ireturn, 1) := by decide +kernel
theorem dX11_sits_18 : decode cX11_sits 18 = .ok (.aload_n 0, 1) := by decide +kernel
theorem dX11_sits_19 : decode cX11_sits 19 = .ok (.getfield 7, 3) := by decide +kernel
theorem dX11_sits_22 : decode cX11_sits 22 = .ok (.iload_n 1, 1) := by decide +kernel
theorem dX11_sits_23 : decode cX11_sits 23 = .ok (.invokestatic 254, 3) := by decide +kernel
theorem dX11_sits_26 : decode cX11_sits 26 = .ok (.iconst 1, 1) := by decide +kernel
theorem dX11_sits_27 : decode cX11_sits 27 = .ok (.iadd, 1) := by decide +kernel
theorem dX11_sits_28 : decode cX11_sits 28 = .ok (.iload_n 2, 1) := by decide +kernel
theorem dX11_sits_29 : decode cX11_sits 29 = .ok (.iastore, 1) := by decide +kernel
theorem dX11_sits_30 : decode cX11_sits 30 = .ok (.iconst 1, 1) := by decide +kernel
theorem dX11_sits_31 : decode cX11_sits 31 = .ok (.ireturn, 1) := by decide +kernel
set_option maxHeartbeats 4000000 in
set_option maxRecDepth 100000 in
theorem ctX11_sits {p1 : Int} {p2 : Int} {σ : jq_M} {res : Int} {σ' : jq_M}  (h : X11_sits p1 p2 σ = some (res, σ')) : jq_MC jq_zM yX11_sits cX11_sits 4 (some .boolean) 4 103 [jR 0, jI p1, jI p2] σ (some (jI res)) σ' := by
  refine jq_met (own := RX11) (L0 := [(0, jR 0), (1, jI p1), (2, jI p2)]) (by decide) rfl rfl rfl ?_
  intro X Γ hnl hlY hRT
  refine jq_use2 (P := fun r => jq_RT jq_zM X (some .boolean) (some (jI r.1)) r.2) ?_ h hRT
  intro K0 hK0
  unfold X11_sits
  have hj18_0 : ∀ (s2 : jq_M), jq_J (X11_sits_j18 p1 p2 s2) K0 (jq_V jq_zM X (jq_zN jq_zM) s2 18 [(0, jR 0), (1, jI p1), (2, jI p2)] []) := by
    intro s2
    unfold X11_sits_j18
    refine jq_aload_n Γ dX11_sits_18 rfl 0 rfl (jq_at_0 at_M_0) ?_
    refine jq_getR (v := 1) Γ hlY at_M_0 fl_RX11_7 rfl rfl ly_X11_at dX11_sits_19 ?_
    refine jq_iload_n Γ dX11_sits_22 rfl 1 rfl ?_
    refine jq_cpI (jq_stat (avs := [jI p1]) (st := [jR 1]) Γ hlY rfl ml_RX11_254 rfl rfl rfl rfl rfl dX11_sits_23) (fun r h => ctX11_partyRow h) (fun v3 => ?_)
    refine jq_iconst Γ dX11_sits_26 rfl ?_
    refine jq_iadd Γ dX11_sits_27 ?_
    refine jq_iload_n Γ dX11_sits_28 rfl 2 rfl ?_
    refine jq_iast Γ at_M_1 rfl dX11_sits_29 (fun s4 => ?_)
    refine jq_iconst Γ dX11_sits_30 rfl ?_
    exact jq_zreturn Γ (Or.inr rfl) dX11_sits_31 (hK0 _)
  refine jq_aload_n Γ dX11_sits_0 rfl 0 rfl (jq_at_0 at_M_0) ?_
  refine jq_iload_n Γ dX11_sits_1 rfl 2 rfl ?_
  refine jq_cpI (jq_virt (avs := [jI p2]) (st := []) Γ hlY rfl ml_RX11_317 rfl at_M_0 rfl rfl rfl rfl rfl dX11_sits_2) (fun r h => ctX11_sitsAt h) (fun v1 => ?_)
  refine jq_istore_n (L' := [(3, jI v1), (0, jR 0), (1, jI p1), (2, jI p2)]) Γ dX11_sits_5 rfl hnl rfl rfl ?_
  refine jq_iload_n Γ dX11_sits_6 rfl 0 rfl ?_
  refine jq_iconst Γ dX11_sits_7 rfl ?_
  refine jq_icmp_eq (tgt := 18) Γ dX11_sits_8 rfl ?_ ?_
  · refine jq_sub Γ (L' := [(0, jR 0), (1, jI p1), (2, jI p2)]) [1, 2, 3] rfl ?_
    exact hj18_0 σ
  · refine jq_iload_n Γ dX11_sits_11 rfl 0 rfl ?_
    refine jq_iload_n Γ dX11_sits_12 rfl 2 rfl ?_
    refine jq_icmp_eq (tgt := 18) Γ dX11_sits_13 rfl ?_ ?_
    · refine jq_sub Γ (L' := [(0, jR 0), (1, jI p1), (2, jI p2)]) [1, 2, 3] rfl ?_
      exact hj18_0 σ
    · refine jq_iconst Γ dX11_sits_16 rfl ?_
      exact jq_zreturn Γ (Or.inl rfl) dX11_sits_17 (hK0 _)



import java.nio.charset.StandardCharsets;

/**
 * Programs made at random, with what a second, plain model of the document (not the class) said of them:
 * how each run stands half way and at its end, and what it prints; the faults of spoilt texts.
 */
public final class ModelRuns {
    private static int wrong = 0;
    private static int checks = 0;

    private static void due(int n, String what, String got, String want) {
        checks++;
        if (!got.equals(want)) {
            wrong++;
            System.out.println("text " + n + ": " + what + " is " + got + ", due is " + want);
        }
    }

    private static void feed(SetHouse x, String text) {
        byte[] t = text.getBytes(StandardCharsets.ISO_8859_1);
        for (int i = 0; i < t.length; i += 20) {
            int[] a = new int[5];
            for (int k = 0; k < 20; k++) {
                a[k / 4] = a[k / 4] << 8 | (i + k < t.length ? t[i + k] & 255 : 32);
            }
            x.feed(a[0], a[1], a[2], a[3], a[4]);
        }
        x.end(t.length);
    }

    private static String states(SetHouse x) {
        StringBuilder b = new StringBuilder();
        for (int what = 0; what <= 9; what++) {
            b.append(what == 0 ? "" : " ").append(x.state(what));
        }
        return b.toString();
    }

    private static String output(SetHouse x) {
        StringBuilder b = new StringBuilder();
        for (int i = 0; i < x.state(1); i++) {
            b.append((char) x.out(i));
        }
        return b.toString();
    }

    private static void run(int n, String text, long seed, int half, String middle, String end, String printed) {
        SetHouse x = new SetHouse();
        feed(x, text);
        x.program();
        x.start(seed);
        x.step(150);
        due(n, "the end", states(x), end);
        due(n, "the output", output(x), printed);
        x.back(x.state(0) - half);
        due(n, "the middle, from behind", states(x), middle);
        x.step(150 - half);
        due(n, "the end again", states(x), end);
        x.start(seed);
        x.step(half);
        due(n, "the middle", states(x), middle);
    }

    private static void fault(int n, String text, int code, int place) {
        SetHouse x = new SetHouse();
        feed(x, text);
        int answer = x.program();
        due(n, "the fault", x.fault() + " at " + (-1 - answer), code + " at " + place);
    }

    public static void main(String[] args) {
        runs();
        faults();
        System.out.println(checks + " checks, " + wrong + " wrong");
        if (wrong != 0) {
            System.exit(1);
        }
    }

    private static void runs() {
        run(0, "var i, j, k, s, t, u, v, w, z, f, g, b1, x, y, a1;\ni := 2;\nj := 2147483648;\nk := 8;\ns := {2, 20, 9};"
            + "\nt := {1..4};\nu := [1..0];\nv := [1..4];\nw := \"hello world\";\nz := \"zz\";\nf := {[5,6],[6,5]};\ng := {[1,"
            + "1]};\nb1 := false;\nx := \"zz\";\ny := [1, 3];\na1 := newat;\nfor h in [134217727 .. i], [e, n1] in (if b1 "
            + "then {for [d, n0] in f : [j, i]} else {[5,6],[6,5]} end) | b1 do \n end; if ok then \n end; z(1 .. 0) "
            + ":= w; j := code(\"q\"); print((\"a\") in w); if (b1) then \n elseif if b1 and true then not b1 else b1 en"
            + "d then f := if b1 then f else (({[1, 2], [1, 3], [2, 5]})) + ({[1,1]}) end; if (exists c in {} | b1)"
            + " then while b1 do j + := 1; print(g);\n end; if 8 = ({7, k .. i}) then \n elseif if z < (\"abc\") then b"
            + "1 else (\"abc\") = ({[5,6],[6,5]}) end then print(([for i in [] | b1 : i]) + u); print(str(u), b1);\n e"
            + "lseif (exists s in t | b1) then print(if false then {2, 20, 9} else ({1, 3, 5}) * ({2, 20, 9}) end, "
            + "(([1..6]) + ([1..3])) + u);\n else \n end;\n else \n end;\n elseif z in w then \n end; print({}); j := ok;"
            + " while (newat) = (type(z)) do k + := 1; \n end; u from u(4);\n",
            2, 12, "12 0 0 205 0 0 62 0 0 0", "25 9 1 1047 0 2 206 2 2 3",
            "false\n{}\n");
        run(1, "var n,m,o,s,t,u,v,w,x,z,y,q,b,p0,p1,p2,p3,p4,p5,p6,p7,p8,p9,p10,p11,p12,p13,p14,p15,p16,p17,p18,p19,"
            + "p20,p21,p22,p23; func rec(k) = if k = 0 then 0 else 1 + rec(k - 1) end; proc rp(k, rd a, rw c); var "
            + "l, ll; l := a; ll := [a]; if k > 0 then rp(k - 1, a, c); else c := {k}; end; end; n := 7; m := 12; o"
            + " := 100; s := {1,2}; t := {[1,2],[2,3]}; u := {}; v := [1,2,3]; w := []; x := [[1]]; z := \"abc\"; y :"
            + "= \"\"; q := \"q\";\nt := u * s;\nrp(20, s, v(1));\nw(998) := 1;\nt := pow({\"\",[],{},0,false,true,newat});\nn"
            + " := n div n;\nv := v(1..# v);\nu := {for i in v, j in {1..5} : i};\ns := +/ t;\nt := u + u;\nfor i in s d"
            + "o v(500) := 1; u := s * t; end;\nv := [for i in s | exists c in {1..10} | c = i : om];\nb := ok;\ns{n} "
            + ":= {};\nt := {91466841, (- (- (2 ** 28 - 1))) .. (2 ** 32 - 1)};",
            5, 61, "61 0 0 226 12 0 296 0 0 2", "123 0 1 695 0 1 2116 1 2 1",
            "");
        run(2, "var i, j, k, s, t, u, v, w, z, f, g, b1, x, y, a1;\nproc pr0(rd q0, rw q1); var lv; lv := 5;z(1 .. # "
            + "z) := w; if not (k <= 0) then for c in s do for d in s, s in ({for d in t | false : j}) do v(2) := s"
            + "; print({for e in v, h in t : [e, [1, 3]]}); b1 := (exists d in ({for c in s | true : j}) | b1);\n en"
            + "d;\n end;\n end; print({q1 .. k});\n end;\ni := 8;\nj := 5;\nk := 0;\ns := {1..5};\nt := {1..2};\nu := [1..0]"
            + ";\nv := [1..3];\nw := \"zz\";\nz := \"a\";\nf := {[1, 2], [1, 3], [2, 5]};\ng := {[1,1]};\nb1 := true;\nx := {1"
            + ", 3, 5};\na1 := om;\nfor [e, n0] in {[5,6],[6,5]} do if (true) then for c in s + ({2, 20, 9}) | not b1"
            + " do print({for h in v : [t, c]}); if ok then \n else print((\"zz\")); n0 := 6;\n end;\n end; continue;\n e"
            + "lse for c in rev((\"zz\")(1 .. 0)) | b1 do print(i);\n end; s := s;\n end; g(code(\"q\")) + := i;\n end; pr"
            + "int(j div 12345678901); for [i, n0] in {} do x fromb y; if (forall i in s, d in t | b1) then t := {4"
            + "294967296, i .. n0}; if (i div (0-7)) = (i > 0) then t := s;\n elseif (forall [h, n0] in g | b1) then"
            + " \n end;\n end; if if b1 then (forall [i, n0] in f | true) else b1 end then stop;\n end;\n end; print(- "
            + "i); j := abs(- j); b1 := ok; f(max / (t + {123456789012345678901234567890})) := (5 - (if b1 then k e"
            + "lse 1 end)) * (i - ([5,6,7,8](3))); b1 * := b1; pr0(i, x); while (134217728 - 6) in t do i + := 1; \n"
            + " end; v := [for [e, n0] in {[1,1]}, s in s * ({1..0}) | if b1 then b1 else true end : if true then j"
            + " else n0 end]; if ok then while b1 do j + := 1; \n end;\n end;\n",
            6, 14, "14 0 0 509 0 0 71 0 0 0", "28 5 1 1236 0 1 150 0 2 0",
            "0\n-8\n");
        run(3, "var n,m,o,s,t,u,v,w,x,z,y,q,b,p0,p1,p2,p3,p4,p5,p6,p7,p8,p9,p10,p11,p12,p13,p14,p15,p16,p17,p18,p19,"
            + "p20,p21,p22,p23; func rec(k) = if k = 0 then 0 else 1 + rec(k - 1) end; proc rp(k, rd a, rw c); var "
            + "l, ll; l := a; ll := [a]; if k > 0 then rp(k - 1, a, c); else c := {k}; end; end; n := 7; m := 12; o"
            + " := 100; s := {1,2}; t := {[1,2],[2,3]}; u := {}; v := [1,2,3]; w := []; x := [[1]]; z := \"abc\"; y :"
            + "= \"\"; q := \"q\";\nv := [for i in s | true : om];\ns := {v};\nt := t{n};\nrp(3, z, v(1));\ns{n} := s;\ny := "
            + "y + z;\nfor i in {1..3} do print(v); q := \"abcdefgh\" * 10; o := (2 ** 1023 + (2 ** 1023 - 1)); end;\nw"
            + " := v + x;",
            8, 16, "16 0 0 468 1 0 54 0 0 5", "33 0 1 484 0 0 49 0 2 0",
            "");
        run(4, "var i, j, k, s, t, u, v, w, z, f, g, b1, x, y, a1;\nfunc fn0(p0, p1) = ({}) * ({1 .. i});\nfunc fn1(p0"
            + ", p1, p2) = s;\nproc pr0(wr q0); var lv; lv := 1;x := t; b1 := b1;\n end;\nproc pr1(wr q0); var lv; lv "
            + ":= 9;f := {for i in fn1(s, u, u) : [random(100), newat]};\n end;\ni := 4;\nk := 0;\ns := {1, 3, 5};\nt :="
            + " {1..3};\nu := [];\nv := [4,4,4];\nw := \"a\";\nz := \"abc\";\nf := {[1,1]};\ng := {[1, 2], [1, 3], [2, 5]};\nb"
            + "1 := true;\nx := 3;\ny := {};\na1 := newat;\ny := pr0(k); b1 := b1; print(b1); u(1) := pr1(v(# v + 1)); "
            + "g(8) := 9; for h in w | i notin ({2, 20, 9}) do print(fn0({}, t)); while j < 6 do j + := 1; print(v,"
            + " 2147483648 - (k + j));\n end;\n end; w(1 .. # w) * := rev(w); z(1 .. # z) := str(t); if k in ([for h "
            + "in [1, 3], [e, n1] in {[5,6],[6,5]} | b1 : f]) then z + := if (forall i in t, h in s | b1) then w + "
            + "z else char(i mod 256) end; u := (if (exists c in t, e in {1, 3, 5} | b1) then [] else [for i in s :"
            + " w] end) + u;\n else print({4294967296, i .. k}); assert j > ([5,6,7,8](2));\n end; z + := type(g); pr"
            + "int(v); b1 := ok;\n",
            9, 13, "13 0 0 419 0 0 58 0 0 1", "27 8 1 567 0 0 78 4 2 2",
            "true\n{}\n");
        run(5, "var n,m,o,s,t,u,v,w,x,z,y,q,b,p0,p1,p2,p3,p4,p5,p6,p7,p8,p9,p10,p11,p12,p13,p14,p15,p16,p17,p18,p19,"
            + "p20,p21,p22,p23; func rec(k) = if k = 0 then 0 else 1 + rec(k - 1) end; proc rp(k, rd a, rw c); var "
            + "l, ll; l := a; ll := [a]; if k > 0 then rp(k - 1, a, c); else c := {k}; end; end; n := 7; m := 12; o"
            + " := 100; s := {1,2}; t := {[1,2],[2,3]}; u := {}; v := [1,2,3]; w := []; x := [[1]]; z := \"abc\"; y :"
            + "= \"\"; q := \"q\";\nx := [0..498];\nrp(3, z, v(1));\ns := {for i in s, j in [1..10] : i};\nb := ok;\nu := u{"
            + "v};\nm := (2 ** 1023 + (2 ** 1023 - 1));\nv := [0..300];\nz(2 .. # v) := v;\nsucceed;\ny := str(u);\nrp(3,"
            + " s, v(1));\np3 := v;\nn := n div o;\no := (2 ** 64 - 1);",
            10, 18, "18 0 0 240 2 0 1078 0 0 4", "36 0 1 555 0 1 2744 0 2 4",
            "");
        run(6, "var i, j, k, s, t, u, v, w, z, f, g, b1, x, y, a1;\nfunc fn0(p0, p1, p2) = s;\nfunc fn1() = {};\nproc p"
            + "r0(); var lv; lv := 3;g := {}; y := pr0();\n end;\nproc pr1(); var lv; lv := 4;i := # (str(# v)); prin"
            + "t(9 - 6); b1 := not ((fn0(v, z, w)) subset (if b1 then t else s end)); g(arb({1} + s)) + := (1342177"
            + "27 - i) * 2147483648;\n end;\ni := 9;\nj := 7;\nk := 4;\ns := {1, 3, 5};\nt := {2, 20, 9};\nu := [1..6];\nv "
            + ":= [1..4];\nw := \"hello world\";\nz := \"\";\nf := {[1, 2], [1, 3], [2, 5]};\ng := {[1,1]};\nb1 := true;\nx :"
            + "= \"zz\";\ny := [4,4,4];\na1 := om;\nz := type(fn0(u, \"hello world\", w)); if ({1, 3, 5}) subset ({}) then"
            + " z := type(i);\n else f(2)(2) + := rev(z * 2);\n end; print(f); y := j; print(newat, i); i := pr0(); z"
            + " := pr0();\n",
            11, 9, "9 0 0 431 0 0 53 0 0 1", "18 0 1 621 0 0 81 0 2 14",
            "");
        run(7, "var n,m,o,s,t,u,v,w,x,z,y,q,b,p0,p1,p2,p3,p4,p5,p6,p7,p8,p9,p10,p11,p12,p13,p14,p15,p16,p17,p18,p19,"
            + "p20,p21,p22,p23; func rec(k) = if k = 0 then 0 else 1 + rec(k - 1) end; proc rp(k, rd a, rw c); var "
            + "l, ll; l := a; ll := [a]; if k > 0 then rp(k - 1, a, c); else c := {k}; end; end; n := 7; m := 12; o"
            + " := 100; s := {1,2}; t := {[1,2],[2,3]}; u := {}; v := [1,2,3]; w := []; x := [[1]]; z := \"abc\"; y :"
            + "= \"\"; q := \"q\";\nu := {1..50};\nu := {1..300};\nt := {x};\nt := s - t;\nu := {w};\np14 := w;\nm := rec(20);"
            + "\nt := +/ w;",
            15, 9, "9 0 0 373 0 0 63 0 0 9", "19 0 7 487 0 0 60 0 2 161",
            "");
        run(8, "var i, j, k, s, t, u, v, w, z, f, g, b1, x, y, a1;\nfunc fn0(p0, p1) = p0;\nproc pr0(rw q0, rd q1, q2)"
            + "; var lv; lv := 3;x := ok; z := rev(z + (type([1..6])));\n end;\ni := 4;\nj := 4;\nk := 7072;\ns := {2, 2"
            + "0, 9};\nt := {1..4};\nu := [4,4,4];\nv := [];\nw := \"\";\nz := \"zz\";\nf := {[1, 2], [1, 3], [2, 5]};\ng := {"
            + "[1,1]};\nb1 := false;\nx := \"hello world\";\ny := 1;\na1 := newat;\nprint({j, k .. 8}); [b1] := [for c in "
            + "{1, 3, 5}, d in s | true : a1]; z := pr0(f, f, v + u);\n",
            17, 10, "10 0 0 263 0 0 54 0 0 43", "21 4 0 127 0 1 163 1 1 26",
            "{4}\n");
        run(9, "var n,m,o,s,t,u,v,w,x,z,y,q,b,p0,p1,p2,p3,p4,p5,p6,p7,p8,p9,p10,p11,p12,p13,p14,p15,p16,p17,p18,p19,"
            + "p20,p21,p22,p23; func rec(k) = if k = 0 then 0 else 1 + rec(k - 1) end; proc rp(k, rd a, rw c); var "
            + "l, ll; l := a; ll := [a]; if k > 0 then rp(k - 1, a, c); else c := {k}; end; end; n := 7; m := 12; o"
            + " := 100; s := {1,2}; t := {[1,2],[2,3]}; u := {}; v := [1,2,3]; w := []; x := [[1]]; z := \"abc\"; y :"
            + "= \"\"; q := \"q\";\nz := z + z;\nu(n) := om;\nv := [t];\nfor i in {1..12} do p6 := x; w := v + x; end;\nx :="
            + " +/ u;\nb := ok;\nx(500) := n;",
            18, 21, "21 0 0 470 0 0 115 0 0 0", "43 0 1 516 0 1 172 0 2 2",
            "");
        run(10, "var i, j, k, s, t, u, v, w, z, f, g, b1, x, y, a1;\nproc pr0(); var lv; lv := 6;print(t); if b1 then "
            + "\n else for c in (domain({for d in t : [lv, a1]})) do u := [for e in ([for h in s : s]), h in om * 0 "
            + ": if b1 then [1, 3] else v end];\n end;\n end; print(f + ({[1, 2], [1, 3], [2, 5]}));\n end;\nproc pr1(w"
            + "r q0); var lv; lv := 1;print(a1); print((2147483648 + j), a1, (w(1 .. 0)) * 3); print(v); t := pr0()"
            + ";\n end;\ni := 3;\nj := 6;\nk := 4;\ns := {};\nt := {};\nu := [1, 3];\nv := [1, 3];\nw := \"\";\nz := \"\";\nf := {"
            + "};\ng := {[1,1]};\nb1 := false;\nx := {};\ny := {2, 20, 9};\na1 := newat;\nb1 := ok; if w in (rev(z)) then"
            + " \n end; for e in (if (forall s in [4,4,4] | false) then t else {1..3} end) do \n end; w(1 .. # w) := "
            + "\"\";\n",
            19, 9, "9 0 0 485 0 0 27 0 0 1", "19 0 0 685 0 1 76 1 1 5",
            "");
        run(11, "var n,m,o,s,t,u,v,w,x,z,y,q,b,p0,p1,p2,p3,p4,p5,p6,p7,p8,p9,p10,p11,p12,p13,p14,p15,p16,p17,p18,p19,"
            + "p20,p21,p22,p23; func rec(k) = if k = 0 then 0 else 1 + rec(k - 1) end; proc rp(k, rd a, rw c); var "
            + "l, ll; l := a; ll := [a]; if k > 0 then rp(k - 1, a, c); else c := {k}; end; end; n := 7; m := 12; o"
            + " := 100; s := {1,2}; t := {[1,2],[2,3]}; u := {}; v := [1,2,3]; w := []; x := [[1]]; z := \"abc\"; y :"
            + "= \"\"; q := \"q\";\nu := u + s;\nz := str(v);\nt(1000) := s;\nfor i in \"abc\" do n := +/ t; q := q + y; v :="
            + " v + v; end;\ns := s + s;\no := rec(10);\nv(2) from z;",
            20, 14, "14 0 0 428 0 0 72 0 0 4", "28 0 1 539 0 0 136 0 2 2",
            "");
        run(12, "var i, j, k, s, t, u, v, w, z, f, g, b1, x, y, a1;\nfunc fn0(p0, p1, p2) = p1;\ni := 9;\nj := 6;\nk := 5"
            + ";\ns := {1, 3, 5};\nt := {};\nu := [1..6];\nv := [];\nw := \"hello world\";\nz := \"hello world\";\nf := {[5,6]"
            + ",[6,5]};\ng := {[1,1]};\nb1 := false;\nx := \"abc\";\ny := 2;\na1 := newat;\nu(3) := - j; print(if b1 then s"
            + " else {1, 3, 5} end); z := z; v + := v; for e in u + (u * 2) | b1 do z + := w; b1 := (not (k in ({2,"
            + " 20, 9}))) and (z in z);\n end; for h in (type(z))(1 .. 0), [i, n1] in f do x := rev((rev(z)));\n end;"
            + " if true then \n end; for c in fn0(g, s, v) | (forall c in [1..5], d in t | b1) do \n end; s := {}; v("
            + "4) := # s; assert (forall e in t | b1);\n",
            21, 13, "13 0 0 236 0 0 63 0 0 2", "26 10 0 611 0 0 62 1 1 1",
            "{1, 3, 5}\n");
        run(13, "var n,m,o,s,t,u,v,w,x,z,y,q,b,p0,p1,p2,p3,p4,p5,p6,p7,p8,p9,p10,p11,p12,p13,p14,p15,p16,p17,p18,p19,"
            + "p20,p21,p22,p23; func rec(k) = if k = 0 then 0 else 1 + rec(k - 1) end; proc rp(k, rd a, rw c); var "
            + "l, ll; l := a; ll := [a]; if k > 0 then rp(k - 1, a, c); else c := {k}; end; end; n := 7; m := 12; o"
            + " := 100; s := {1,2}; t := {[1,2],[2,3]}; u := {}; v := [1,2,3]; w := []; x := [[1]]; z := \"abc\"; y :"
            + "= \"\"; q := \"q\";\nu := {n};\nz := z + z;\nt := u * u;\nz := str(y);\nt := s * u;\ns := pow({\"\",[],{},0,fals"
            + "e,true,om});\ns := {for i in v, j in {1..30} : j};",
            22, 9, "9 0 0 373 0 0 63 0 0 9", "18 0 3 475 0 0 57 0 2 4",
            "");
        run(14, "var i, j, k, s, t, u, v, w, z, f, g, b1, x, y, a1;\ni := 6;\nj := 0;\nk := 134217727;\ns := {};\nt := {1."
            + ".5};\nu := [1, 3];\nv := [1, 3];\nw := \"hello world\";\nz := \"hello world\";\nf := {[1, 2]};\ng := {[1, 2], "
            + "[1, 3], [2, 5]};\nb1 := true;\nx := 0;\ny := {[1, 2], [1, 3], [2, 5]};\na1 := newat;\nx := ok; b1 := s su"
            + "bset (domain({[j, 0], [1, 2]})); if (forall d in t, i in {1, 3, 5} | false) then v(1) := arb({1} + s"
            + "); print(char(i mod 256));\n else if (z + z) <= w then for c in u do \n end; b1 - := (exists e in {1, "
            + "3, 5} | b1);\n elseif j notin (if b1 then v else u end) then [-, j] := rev([3 .. j]);\n elseif (forall"
            + " c in u | true) then \n end; y := ((i * 0) - k) > i;\n end; b1 := (z /= om) and ((t + t) /= om); i := "
            + "6; if ok then print({});\n end; g := {[1, 2], [1, 3], [2, 5]}; print(om); i := ok; g(9) + := [5,6,7,8"
            + "](4);\n",
            23, 14, "14 0 0 237 0 0 77 0 0 43", "29 6 1 782 0 3 262 1 2 24",
            "{}\nom\n");
        run(15, "var n,m,o,s,t,u,v,w,x,z,y,q,b,p0,p1,p2,p3,p4,p5,p6,p7,p8,p9,p10,p11,p12,p13,p14,p15,p16,p17,p18,p19,"
            + "p20,p21,p22,p23; func rec(k) = if k = 0 then 0 else 1 + rec(k - 1) end; proc rp(k, rd a, rw c); var "
            + "l, ll; l := a; ll := [a]; if k > 0 then rp(k - 1, a, c); else c := {k}; end; end; n := 7; m := 12; o"
            + " := 100; s := {1,2}; t := {[1,2],[2,3]}; u := {}; v := [1,2,3]; w := []; x := [[1]]; z := \"abc\"; y :"
            + "= \"\"; q := \"q\";\nrp(20, s, n);\nfor i in s do  end;\nu := u{n};\nu{v} := s;\nz := \"abcdefgh\" * 500;\ns := "
            + "{for i in {1..20}, j in t : i};\nu := {for i in s, j in {1..5} : \"a\"};\nn := rec(25);\ns := pow({\"\",[],"
            + "{},0,false,true,newat});\nn := rec(20);\nv := [t];",
            24, 50, "50 0 0 207 10 0 261 0 0 0", "101 0 5 472 0 0 86 0 2 5",
            "");
        run(16, "var i, j, k, s, t, u, v, w, z, f, g, b1, x, y, a1;\ni := 4;\nj := 16304;\nk := 1;\ns := {};\nt := {1..2};"
            + "\nu := [];\nv := [1..0];\nw := \"\";\nz := \"\";\nf := {[1,1]};\ng := {[1,1]};\nb1 := false;\nx := \"abc\";\ny := \""
            + "hello world\";\na1 := newat;\nprint({[i, j], [7, j]}); print(+/ ((({1..0}) + s) + {2}), b1); w(1 .. 0) "
            + ":= char(j mod 256);\n",
            25, 9, "9 0 0 132 0 0 22 0 0 1", "18 33 0 290 0 0 37 1 1 11",
            "{[4, 16304], [7, 16304]}\n2 false\n");
        run(17, "var n,m,o,s,t,u,v,w,x,z,y,q,b,p0,p1,p2,p3,p4,p5,p6,p7,p8,p9,p10,p11,p12,p13,p14,p15,p16,p17,p18,p19,"
            + "p20,p21,p22,p23; func rec(k) = if k = 0 then 0 else 1 + rec(k - 1) end; proc rp(k, rd a, rw c); var "
            + "l, ll; l := a; ll := [a]; if k > 0 then rp(k - 1, a, c); else c := {k}; end; end; n := 7; m := 12; o"
            + " := 100; s := {1,2}; t := {[1,2],[2,3]}; u := {}; v := [1,2,3]; w := []; x := [[1]]; z := \"abc\"; y :"
            + "= \"\"; q := \"q\";\nfor i in {1..3} do s := {(- (- (2 ** 1022))), (2 ** 1023 + (2 ** 1023 - 1)) .. (2 **"
            + " 1023)}; end;\nz := str(t);\nn := (((2 ** 1023 + (2 ** 1023 - 1)) * (2 ** 1000)) + 66752725);\nu{n} := "
            + "{};\nu := {for i in v, j in t : j};\nw := [t];\nn := (- (- (10 ** 22)));\nw := [0..499];",
            26, 9, "9 0 0 373 0 0 64 0 0 9", "18 0 5 527 0 0 98 0 2 179",
            "");
        run(18, "var i, j, k, s, t, u, v, w, z, f, g, b1, x, y, a1;\nfunc fn0(p0, p1) = k - k;\nproc pr0(); var lv; lv "
            + ":= 7;b1 + := b1; if not true then z * := char((code(\"q\")) mod 256);\n end; if ok then z(134217727 mod"
            + " 2) := char((lv ** 2) mod 256); print({1..4});\n elseif if i >= j then (exists h in v | b1) else if b"
            + "1 then b1 else false end end then print(z(1 .. 0)); if z = (w + (\"abc\")) then u(1) := (if g = f then"
            + " random([3,1,4]) else j end) - (random(100));\n else print(z + (\"\"));\n end;\n else print(({1, 3, 5}) s"
            + "ubset t); y * := 2;\n end;\n end;\ni := 7;\nj := 1;\nk := 134217727;\ns := {1..3};\nt := {1..2};\nu := [1, 3"
            + "];\nv := [4,4,4];\nw := \"a\";\nz := \"\";\nf := {[1,1]};\ng := {};\nb1 := true;\nx := \"\";\ny := [4,4,4];\na1 := "
            + "newat;\nprint(newat); i := ok; for s in ({for e in s | false : j}) do \n end; pr0(); print((exists c i"
            + "n {2, 20, 9}, s in {1..3} | b1)); if b1 then \n elseif (\"a\") <= (rev(z)) then for d in (({1, 3, 5}) *"
            + " t) * ({1..1}), m1 in rev(w) do print({[5,6],[6,5]});\n end;\n else print(if ({2, 20, 9}) subset s the"
            + "n s else {for i in s, s in \"zz\" : i} end);\n end; v(1) := pr0(); for e in {} do print(i); print(om); "
            + "b1 := ok;\n end; pr0(); j - := if if true then b1 else b1 end then j else i - k end; pr0(); t := {}; "
            + "while (\"abc\") + ((\"abc\") * 3) do k + := 1; s - := ({2, 20, 9}) + (domain(f)); if (k ** 10) in ([for "
            + "h in t | b1 : false]) then print(s); u(4) - := j;\n else \n end;\n end;\n",
            27, 10, "10 0 0 636 0 0 48 0 0 15", "21 3 1 105 1 1 109 2 2 0",
            "#2\n");
        run(19, "var n,m,o,s,t,u,v,w,x,z,y,q,b,p0,p1,p2,p3,p4,p5,p6,p7,p8,p9,p10,p11,p12,p13,p14,p15,p16,p17,p18,p19,"
            + "p20,p21,p22,p23; func rec(k) = if k = 0 then 0 else 1 + rec(k - 1) end; proc rp(k, rd a, rw c); var "
            + "l, ll; l := a; ll := [a]; if k > 0 then rp(k - 1, a, c); else c := {k}; end; end; n := 7; m := 12; o"
            + " := 100; s := {1,2}; t := {[1,2],[2,3]}; u := {}; v := [1,2,3]; w := []; x := [[1]]; z := \"abc\"; y :"
            + "= \"\"; q := \"q\";\nu := pow({1,2,3});\nu := {w};\nv := [t];\nw := [v];\nz := z + z;\nt{n} := {1..10};",
            28, 9, "9 0 0 373 0 0 63 0 0 9", "18 0 0 477 0 0 134 0 1 86",
            "");
        run(20, "var i, j, k, s, t, u, v, w, z, f, g, b1, x, y, a1;\nproc pr0(wr q0, rw q1); var lv; lv := 0;print([ne"
            + "wat, arb({1} + t), code(\"q\")], s + ({}), (q0));\n end;\ni := 4;\nj := 0;\nk := 1234567890123456789012345"
            + "67890;\ns := {};\nt := {1..3};\nu := [];\nv := [];\nw := \"hello world\";\nz := \"a\";\nf := {[5,6],[6,5]};\nb1 "
            + ":= false;\nx := \"a\";\ny := \"a\";\na1 := newat;\n[f(code(\"q\"))] := v; pr0(v, z); u(1) := [5,6,7,8](3); w(1"
            + " .. # w) := z + (str(str(v))); print({1});\n",
            29, 10, "10 0 0 277 0 0 40 0 0 29", "21 23 0 431 0 0 43 2 1 5",
            "[#2, 1, 113] {} om\n{1}\n");
        run(21, "var n,m,o,s,t,u,v,w,x,z,y,q,b,p0,p1,p2,p3,p4,p5,p6,p7,p8,p9,p10,p11,p12,p13,p14,p15,p16,p17,p18,p19,"
            + "p20,p21,p22,p23; func rec(k) = if k = 0 then 0 else 1 + rec(k - 1) end; proc rp(k, rd a, rw c); var "
            + "l, ll; l := a; ll := [a]; if k > 0 then rp(k - 1, a, c); else c := {k}; end; end; n := 7; m := 12; o"
            + " := 100; s := {1,2}; t := {[1,2],[2,3]}; u := {}; v := [1,2,3]; w := []; x := [[1]]; z := \"abc\"; y :"
            + "= \"\"; q := \"q\";\nm := rec(10);\nt := s + t;\ns := {1..50};\nrp(48, z, s);\nx := +/ v;\np17 := s;\nb := ok;\n"
            + "s := u - s;\nt := {(2 ** 28 - 1), (- (10 ** 95)) .. (2 ** 1023 + (2 ** 1023 - 1))};\nprint(s);\ns{v} :="
            + " s;\nt := u * s;\nfor i in v do w := [z]; end;",
            30, 75, "75 0 0 226 15 0 1816 0 0 2", "150 0 0 215 34 0 3906 0 0 3",
            "");
        run(22, "var i, j, k, s, t, u, v, w, z, f, g, b1, x, y, a1;\nfunc fn0() = fn0();\nproc pr0(); var lv; lv := 8;p"
            + "rint({[1, 2], [1, 3], [2, 5]}); v from u; j := 134217728; w(1 .. # w) fromb z(1 .. # z);\n end;\nproc "
            + "pr1(q0, wr q1); var lv; lv := 8;u := [1..6]; f{j div 12345678901} := ({}) - s; print({1, 3, 5});\n en"
            + "d;\ni := 2147483648;\nj := 6;\nk := 5;\ns := {1..2};\nt := {2, 20, 9};\nu := [1, 3];\nv := [1..5];\nw := \"ab"
            + "c\";\nz := \"\";\nf := {[1, 2], [1, 3], [2, 5]};\ng := {[1, 2], [1, 3], [2, 5]};\nb1 := true;\nx := \"a\";\ny :"
            + "= [1, 3];\na1 := om;\npr1(({}), z); pr1({1..0}, j); if ((b1)) and ((\"a\") >= w) then print(z + (if b1 t"
            + "hen \"a\" else z end), om);\n elseif not ((newat) /= z) then z(1 .. 0) := z; while (forall i in s | b1)"
            + " do j + := 1; u(# u + 1) + := i; for [h, n0] in g, d in [4,4,4] do b1 := (((\"zz\") + z) * 3) <= (if z"
            + " in z then rev(w) else w(1 .. 0) end);\n end;\n end;\n elseif z in (z + w) then print(newat, s, t); x :"
            + "= ok;\n end; for c in t | 4294967296 in ({1..4}) do b1 * := b1; while k < 8 do k + := 1; v(1) := pr0("
            + "); print(([1, 3])(1 .. 0));\n end; for s in (fn0())(1 .. 0) | (forall [s, n0] in f | b1) do s(1 .. # "
            + "s) := (rev((\"a\"))) + (fn0());\n end;\n end;\n",
            31, 13, "13 0 0 487 0 0 79 0 0 2", "26 20 1 550 0 0 90 1 2 7",
            "{1, 3, 5}\n{1, 3, 5}\n");
        run(23, "var n,m,o,s,t,u,v,w,x,z,y,q,b,p0,p1,p2,p3,p4,p5,p6,p7,p8,p9,p10,p11,p12,p13,p14,p15,p16,p17,p18,p19,"
            + "p20,p21,p22,p23; func rec(k) = if k = 0 then 0 else 1 + rec(k - 1) end; proc rp(k, rd a, rw c); var "
            + "l, ll; l := a; ll := [a]; if k > 0 then rp(k - 1, a, c); else c := {k}; end; end; n := 7; m := 12; o"
            + " := 100; s := {1,2}; t := {[1,2],[2,3]}; u := {}; v := [1,2,3]; w := []; x := [[1]]; z := \"abc\"; y :"
            + "= \"\"; q := \"q\";\nx := [s];\ns := {1..498};\nu := {for i in {1..20}, j in t : \"a\"};\nu := {(10 ** 103), ("
            + "(2 ** 28 - 1) div 518617589) .. 13423254297909863558};\nt := t{v};\nt := {s};",
            32, 9, "9 0 0 373 0 0 63 0 0 9", "18 0 0 566 0 0 2058 0 1 998",
            "");
        run(24, "var i, j, k, s, t, u, v, w, z, f, g, b1, x, y, a1;\nfunc fn0(p0, p1, p2) = [0 .. i ** 3];\nproc pr0(wr"
            + " q0, rd q1, rw q2); var lv; lv := 2;q2(2) := 2147483648; for d in s do \n end; f{k} - := {lv .. j};\n "
            + "end;\ni := 4;\nj := 4294967296;\nk := 3;\ns := {1..2};\nt := {1..4};\nu := [1..2];\nv := [4,4,4];\nw := \"zz\""
            + ";\nz := \"a\";\nf := {[5,6],[6,5]};\ng := {[5,6],[6,5]};\nb1 := false;\nx := 0;\ny := [4,4,4];\na1 := newat;\n"
            + "print(not ((\"zz\") in z)); v := u; if (s subset t) or ((true)) then print(u); t := domain(f);\n else v"
            + "(3) - := code(\"q\");\n end; s := if (\"\") >= (type(2)) then {1..1} else {2, 20, 9} end; z := pr0(b1, (\""
            + "hello world\") + (\"a\"), v(1 .. # v)); while j < 6 do j + := 1; \n end; f := {[1 ** 3, 0], [134217727, "
            + "v(random(100))]}; s := {}; if (exists i in t | b1) then w(j ** 40) from x;\n end; print(if if true th"
            + "en b1 else b1 end then z else w + z end);\n",
            38, 13, "13 0 0 365 0 0 63 0 0 1", "26 12 5 178 1 0 78 1 2 0",
            "true\n[1, 2]\n");
        run(25, "var n,m,o,s,t,u,v,w,x,z,y,q,b,p0,p1,p2,p3,p4,p5,p6,p7,p8,p9,p10,p11,p12,p13,p14,p15,p16,p17,p18,p19,"
            + "p20,p21,p22,p23; func rec(k) = if k = 0 then 0 else 1 + rec(k - 1) end; proc rp(k, rd a, rw c); var "
            + "l, ll; l := a; ll := [a]; if k > 0 then rp(k - 1, a, c); else c := {k}; end; end; n := 7; m := 12; o"
            + " := 100; s := {1,2}; t := {[1,2],[2,3]}; u := {}; v := [1,2,3]; w := []; x := [[1]]; z := \"abc\"; y :"
            + "= \"\"; q := \"q\";\ns := t * u;\nt := {1..499};\nn := n * o;\nq := str(u);\ns := t * t;\np20 := t;\nb := ok;\nm"
            + " := rec(19);",
            39, 10, "10 0 0 385 0 0 64 0 0 2", "20 0 0 499 0 1 6090 0 1 233",
            "");
        run(26, "var i, j, k, s, t, u, v, w, z, f, g, b1, x, y, a1;\nfunc fn0(p0) = ((char(i mod 256)) + (char(i mod 2"
            + "56))) + (w(1 .. 0));\nproc pr0(wr q0, q1, q2); var lv; lv := 5;s + := domain({[1,1]}); q0 := type(if "
            + "b1 then q0 in (\"abc\") else true end);\n end;\nproc pr1(rd q0); var lv; lv := 1;print(i);\n end;\ni := 6;"
            + "\nj := 0;\nk := 4;\ns := {2, 20, 9};\nt := {1..3};\nu := [];\nv := [];\nw := \"a\";\nz := \"hello world\";\nf := "
            + "{[1, 2]};\ng := {[1, 2]};\nb1 := false;\nx := {};\ny := [1..4];\na1 := om;\nprint({[0, i], [j, j]}); [-] :"
            + "= (v * 3) + ([for s in t, [d, n1] in {[1, 2]} : []]); pr1({[1,1]});\n",
            41, 10, "10 0 0 395 0 0 38 0 0 15", "20 19 0 277 0 0 51 0 1 0",
            "{[0, 0], [0, 6]}\n6\n");
        run(27, "var n,m,o,s,t,u,v,w,x,z,y,q,b,p0,p1,p2,p3,p4,p5,p6,p7,p8,p9,p10,p11,p12,p13,p14,p15,p16,p17,p18,p19,"
            + "p20,p21,p22,p23; func rec(k) = if k = 0 then 0 else 1 + rec(k - 1) end; proc rp(k, rd a, rw c); var "
            + "l, ll; l := a; ll := [a]; if k > 0 then rp(k - 1, a, c); else c := {k}; end; end; n := 7; m := 12; o"
            + " := 100; s := {1,2}; t := {[1,2],[2,3]}; u := {}; v := [1,2,3]; w := []; x := [[1]]; z := \"abc\"; y :"
            + "= \"\"; q := \"q\";\nt{1} := s;\ns := {1..5};\no := o div o;\nw := [for i in v | true : i];\np20 := z;\nw := w"
            + " + w;\nw := [w];\ns := {(2 ** 1023 + (2 ** 1023 - 1)), (10 ** 19) .. (10 ** 168)};\nw := [for i in [om,"
            + "om,1]*300 | true : om];\nw(1) := om;\nn := n mod o;",
            44, 10, "10 0 0 385 0 0 64 0 0 2", "21 0 5 581 0 0 113 0 2 9",
            "");
        run(28, "var i, j, k, s, t, u, v, w, z, f, g, b1, x, y, a1;\nfunc fn0(p0, p1, p2) = {[5,6],[6,5]};\ni := 9;\nj :"
            + "= 1;\nk := 6;\ns := {};\nt := {1, 3, 5};\nu := [4,4,4];\nv := [4,4,4];\nw := \"abc\";\nz := \"zz\";\nf := {};\ng "
            + ":= {[1, 2], [1, 3], [2, 5]};\nb1 := false;\nx := 5;\ny := \"a\";\na1 := newat;\ng{j + k} := {1..2}; print(("
            + "{[5,6],[6,5]}), {2, 20, 9}, (om)); if b1 then s := {};\n end; w + := \"a\";\n",
            49, 9, "9 0 0 178 0 0 38 0 0 2", "19 31 0 361 0 0 65 1 1 4",
            "{[5, 6], [6, 5]} {2, 9, 20} om\n");
        run(29, "var n,m,o,s,t,u,v,w,x,z,y,q,b,p0,p1,p2,p3,p4,p5,p6,p7,p8,p9,p10,p11,p12,p13,p14,p15,p16,p17,p18,p19,"
            + "p20,p21,p22,p23; func rec(k) = if k = 0 then 0 else 1 + rec(k - 1) end; proc rp(k, rd a, rw c); var "
            + "l, ll; l := a; ll := [a]; if k > 0 then rp(k - 1, a, c); else c := {k}; end; end; n := 7; m := 12; o"
            + " := 100; s := {1,2}; t := {[1,2],[2,3]}; u := {}; v := [1,2,3]; w := []; x := [[1]]; z := \"abc\"; y :"
            + "= \"\"; q := \"q\";\nrp(20, z, v(1));\nw := x(1..# v);\np12 := x;\ns := {1..5};\nu(1000) := v;\no := rec(10);\n"
            + "z(# v + 1) := 1;\no := o div m;",
            51, 49, "49 0 0 240 10 0 172 0 0 4", "98 0 4 433 0 0 65 0 2 4",
            "");
        run(30, "var i, j, k, s, t, u, v, w, z, f, g, b1, x, y, a1;\nproc pr0(rw q0, q1, q2); var lv; lv := 5;if (exis"
            + "ts i in u | b1) then lv * := (134217728 * j) mod 3; if ok then return str(t + t); j := 134217728;\n e"
            + "lseif (exists h in t, d in u | b1) then i := lv div 12345678901;\n elseif not ((b1)) then \n else if ("
            + "type(w)) in (\"\") then return {for d in {} : [k, b1]};\n elseif (str(\"a\")) in (z(1 .. 0)) then \n end;\n"
            + " end;\n elseif b1 then \n end; w + := z;\n end;\ni := 9;\nj := 5;\nk := 5;\ns := {};\nt := {1, 3, 5};\nu := ["
            + "1..0];\nv := [1..4];\nw := \"zz\";\nz := \"\";\nf := {[1,1]};\ng := {[1, 2]};\nb1 := true;\nx := {2, 20, 9};\ny "
            + ":= {[1, 2]};\na1 := newat;\nfor e in ({for e in u, d in u | true : i}) | b1 and true do \n end; for s i"
            + "n u do \n end; f - := {[1,1]}; succeed; v(# v + 1) * := j; i * := k; while 134217727 in (u(1 .. 0)) d"
            + "o k + := 1; \n end; while false do j + := 1; \n end; u := rev(v); t frome k; f{j} := {for s in z | s <"
            + " s : 123456789012345678901234567890};\n",
            53, 9, "9 0 0 531 0 0 35 0 0 1", "19 0 10 730 0 0 51 1 2 0",
            "");
        run(31, "var n,m,o,s,t,u,v,w,x,z,y,q,b,p0,p1,p2,p3,p4,p5,p6,p7,p8,p9,p10,p11,p12,p13,p14,p15,p16,p17,p18,p19,"
            + "p20,p21,p22,p23; func rec(k) = if k = 0 then 0 else 1 + rec(k - 1) end; proc rp(k, rd a, rw c); var "
            + "l, ll; l := a; ll := [a]; if k > 0 then rp(k - 1, a, c); else c := {k}; end; end; n := 7; m := 12; o"
            + " := 100; s := {1,2}; t := {[1,2],[2,3]}; u := {}; v := [1,2,3]; w := []; x := [[1]]; z := \"abc\"; y :"
            + "= \"\"; q := \"q\";\nw := w + w;\ns := {for i in v, j in [1..10] : [i, j]};\ns := {w};\nm := (2 ** 512);\nn :"
            + "= ok;\nx := w + v;\nx(1 .. 1) := [];\nprint(s);\nn := +/ s;",
            60, 10, "10 0 0 385 0 0 64 0 0 2", "21 5 0 545 0 1 156 0 1 1",
            "{[]}\n");
        run(32, "var i, j, k, s, t, u, v, w, z, f, g, b1, x, y, a1;\nfunc fn0(p0, p1, p2) = ({[1,1]}) + ({[j, i], [p1 "
            + "div 12345678901, p1 - k]});\nfunc fn1(p0, p1, p2) = ((exists i in {1..2} | false));\nproc pr0(rw q0, w"
            + "r q1, q2); var lv; lv := 2;y := ok; return; y := (- ((lv))) notin q1;\n end;\ni := 4;\nj := 134217727;\n"
            + "s := {1..5};\nt := {1..6};\nu := [4,4,4];\nv := [4,4,4];\nw := \"\";\nz := \"\";\nf := {[1, 2]};\ng := {[1,1]};"
            + "\nb1 := false;\nx := {1, 3, 5};\ny := 9;\na1 := newat;\nx := (exists i in s | fn1(u, g, [])); f := {[1, 2"
            + "]}; if ok then print(v + v);\n elseif ((b1)) then b1 := ok;\n elseif true then print({[5,6],[6,5]}); k"
            + " := k;\n elseif b1 then u(2)(1) := pr0(f{5}, j, k); assert false;\n elseif (i ** 40) > (0 * i) then \n "
            + "end; if if z in w then b1 else b1 end then \n end; print(newat); fail;\n",
            75, 13, "13 0 0 430 0 0 68 0 0 2", "26 42 10 764 0 0 62 3 2 0",
            "[4, 4, 4, 4, 4, 4]\n#2\n{[5, 6], [6, 5]}\n#3\n");
        run(33, "var n,m,o,s,t,u,v,w,x,z,y,q,b,p0,p1,p2,p3,p4,p5,p6,p7,p8,p9,p10,p11,p12,p13,p14,p15,p16,p17,p18,p19,"
            + "p20,p21,p22,p23; func rec(k) = if k = 0 then 0 else 1 + rec(k - 1) end; proc rp(k, rd a, rw c); var "
            + "l, ll; l := a; ll := [a]; if k > 0 then rp(k - 1, a, c); else c := {k}; end; end; n := 7; m := 12; o"
            + " := 100; s := {1,2}; t := {[1,2],[2,3]}; u := {}; v := [1,2,3]; w := []; x := [[1]]; z := \"abc\"; y :"
            + "= \"\"; q := \"q\";\nu := u{n};\nt := pow({1,2,3,4,5,6});\ns := {1..499};\nw := w + x;\nrp(50, s, n);\no from "
            + "s;\nu := u{n};",
            79, 33, "33 0 0 240 5 0 14513 0 0 4", "67 0 6 215 13 0 39527 0 2 1000",
            "");
        run(34, "var i, j, k, s, t, u, v, w, z, f, g, b1, x, y, a1;\nfunc fn0(p0, p1) = fn0(t, {j, j});\nproc pr0(wr q0"
            + ", q1); var lv; lv := 3;u := (q1); for s in z do fail; g := {[i, abs(i ** 10)], [6, (abs(k)) - 0]};\n "
            + "end; b1 := if b1 then false else (random({1..5})) >= i end;\n end;\ni := 8;\nj := 7;\nk := 2;\ns := {1..0"
            + "};\nt := {2, 20, 9};\nu := [];\nv := [1..1];\nw := \"zz\";\nz := \"hello world\";\nf := {[1, 2], [1, 3], [2, 5"
            + "]};\ng := {[1, 2], [1, 3], [2, 5]};\nb1 := false;\nx := {2, 20, 9};\ny := [1..1];\na1 := newat;\nprint({})"
            + "; pr0(v(1 .. # v), []); y := (- 2147483648) <= i; t := pr0(i, [i, k .. j]); if ok then pr0(w(1 .. 0)"
            + ", v(1 .. 0));\n else print((t subset t));\n end; if if b1 or false then w = t else b1 end then b1 * :="
            + " b1;\n end; s - := s; j from b1;\n",
            82, 10, "10 0 0 373 0 0 45 0 0 43", "21 3 10 148 1 0 78 1 2 0",
            "{}\n");
        run(35, "var n,m,o,s,t,u,v,w,x,z,y,q,b,p0,p1,p2,p3,p4,p5,p6,p7,p8,p9,p10,p11,p12,p13,p14,p15,p16,p17,p18,p19,"
            + "p20,p21,p22,p23; func rec(k) = if k = 0 then 0 else 1 + rec(k - 1) end; proc rp(k, rd a, rw c); var "
            + "l, ll; l := a; ll := [a]; if k > 0 then rp(k - 1, a, c); else c := {k}; end; end; n := 7; m := 12; o"
            + " := 100; s := {1,2}; t := {[1,2],[2,3]}; u := {}; v := [1,2,3]; w := []; x := [[1]]; z := \"abc\"; y :"
            + "= \"\"; q := \"q\";\nu := pow({});\nb := ok;\ns := {for i in v, j in {1..5} : \"a\"};\nrp(20, z, n);\nw := x + "
            + "x;\nfor i in \"abc\" do z := \"abcdefgh\" * 500; end;\nb := ok;\nx := [n];\ns{v} := {};\nt := u * s;\nv := v +"
            + " x;\ny := +/ v;",
            103, 51, "51 0 0 226 9 1 231 0 0 2", "103 0 5 521 0 1 141 0 2 5",
            "");
        run(36, "var i, j, k, s, t, u, v, w, z, f, g, b1, x, y, a1;\nfunc fn0(p0) = code(\"q\");\nfunc fn1(p0) = not ((j "
            + "+ 6) notin (s * s));\nproc pr0(q0, rd q1, rd q2); var lv; lv := 0;lv * := k - (random(2147483647));\n "
            + "end;\ni := 5;\nj := 9;\nk := 5;\ns := {2, 20, 9};\nt := {};\nu := [1..2];\nv := [1..5];\nw := \"\";\nz := \"\";\nf"
            + " := {};\ng := {[5,6],[6,5]};\nb1 := false;\nx := \"\";\ny := [];\na1 := newat;\n[-, b1, v] := ([for c in t |"
            + " b1 : a1]) + ((u)); g := {for h in t * t : [4294967296 mod 12345678901, newat]}; z := z; for c in (("
            + "z)) + w do continue;\n end; for e in {2, 20, 9} | b1 do j := ((if false then j else k end) - (e - k))"
            + " * (code(\"q\")); x := ok; if (forall c in s | b1) then i - := (fn0(t)) * 2147483648; while k < 6 do k"
            + " + := 1; \n end;\n end;\n end; g{k} := {1..3}; y := ok; print(s - t); print(z, [1, 3]);\n",
            118, 10, "10 0 0 299 0 0 40 0 0 1", "20 0 9 527 0 0 39 1 2 14",
            "");
        run(37, "var n,m,o,s,t,u,v,w,x,z,y,q,b,p0,p1,p2,p3,p4,p5,p6,p7,p8,p9,p10,p11,p12,p13,p14,p15,p16,p17,p18,p19,"
            + "p20,p21,p22,p23; func rec(k) = if k = 0 then 0 else 1 + rec(k - 1) end; proc rp(k, rd a, rw c); var "
            + "l, ll; l := a; ll := [a]; if k > 0 then rp(k - 1, a, c); else c := {k}; end; end; n := 7; m := 12; o"
            + " := 100; s := {1,2}; t := {[1,2],[2,3]}; u := {}; v := [1,2,3]; w := []; x := [[1]]; z := \"abc\"; y :"
            + "= \"\"; q := \"q\";\nv := w(1..0);\ns := {for i in v, j in {1..5} : j};\np19 := z;\ns := s{v};\ns := pow({1,2"
            + ",3});\np1 := u;\nb := ok;\nu{1} := {1..10};\nu := {(10 ** 306), (2 ** 32 - 1) .. (- (2 ** 1023 - 1))};\nt"
            + " := t{n};\ns := +/ t;\nu := u * t;\no := o * m;\nu := {1..498};",
            129, 10, "10 0 0 385 0 0 64 0 0 2", "21 0 5 541 0 1 226 0 2 153",
            "");
        run(38, "var i, j, k, s, t, u, v, w, z, f, g, b1, x, y, a1;\nproc pr0(rw q0); var lv; lv := 7;f(if b1 then lv "
            + "else lv end) := lv; pr0(z); print({[5,6],[6,5]}); while j < 8 do j + := 1; \n end;\n end;\nproc pr1(wr "
            + "q0, wr q1); var lv; lv := 9;while b1 do j + := 1; assert ((\"hello world\") * 2) >= ((\"\") + (\"hello wo"
            + "rld\"));\n end; assert not (if b1 then b1 else b1 end);\n end;\ni := 0;\nj := 1;\nk := 7;\ns := {1, 3, 5};\n"
            + "t := {1..0};\nu := [];\nv := [];\nw := \"a\";\nz := \"a\";\nf := {[1, 2]};\ng := {[1, 2]};\nb1 := false;\nx := {"
            + "};\ny := {[1,1]};\na1 := om;\ng := {[j, 134217727], [k - (j * 9), - 2147483648]}; for d in v | b1 do pr"
            + "int(a1); succeed; if ok then stop; print(z);\n elseif (str(b1)) > (type(v)) then \n elseif if b1 then "
            + "(false) else 1 <= k end then print(z(1 .. 0)); f(code(\"q\")) from v(1);\n end;\n end; if ok then print("
            + "(u));\n elseif ({1..5}) subset ({}) then \n elseif b1 then \n end; print({[1,1]}, [5,6,7,8](3), newat);"
            + " print(i); while not ((exists i in s | b1)) do j + := 1; fail;\n end; s := {2, 20, 9}; print(om, [1.."
            + "4]);\n",
            161, 14, "14 0 0 503 0 0 41 0 0 15", "29 35 10 957 0 0 46 2 2 0",
            "[]\n{[1, 1]} 7 #1\n0\n{[1, 1]} 7 #2\n0\n");
        run(39, "var n,m,o,s,t,u,v,w,x,z,y,q,b,p0,p1,p2,p3,p4,p5,p6,p7,p8,p9,p10,p11,p12,p13,p14,p15,p16,p17,p18,p19,"
            + "p20,p21,p22,p23; func rec(k) = if k = 0 then 0 else 1 + rec(k - 1) end; proc rp(k, rd a, rw c); var "
            + "l, ll; l := a; ll := [a]; if k > 0 then rp(k - 1, a, c); else c := {k}; end; end; n := 7; m := 12; o"
            + " := 100; s := {1,2}; t := {[1,2],[2,3]}; u := {}; v := [1,2,3]; w := []; x := [[1]]; z := \"abc\"; y :"
            + "= \"\"; q := \"q\";\nu(998) := v;\ns := pow({});\no := ((10 ** 113) - 71222182130099422386882114199);\nt := "
            + "t{v};\nw := [s];\np14 := v;\nq := \"abcdefgh\" * 499;\nw := [t];\nw := [for i in s | true : if i = 100 then"
            + " i else om end];\nw(1000) := s;",
            173, 11, "11 0 0 397 0 0 64 0 0 1", "22 0 5 617 0 0 1076 0 2 2",
            "");
        run(40, "var i, j, k, s, t, u, v, w, z, f, g, b1, x, y, a1;\ni := 3;\nj := 0;\nk := 4294967296;\ns := {1..6};\nt :"
            + "= {};\nu := [1, 3];\nv := [4,4,4];\nw := \"abc\";\nz := \"hello world\";\nf := {[1, 2], [1, 3], [2, 5]};\ng :="
            + " {[1, 2], [1, 3], [2, 5]};\nb1 := true;\nx := {2, 20, 9};\ny := 9;\na1 := om;\nf{+/ (s + {134217728})} :="
            + " {1, 3, 5}; z(1 .. 0) := (if w in w then str(k) else (\"\") + z end) * 2; for d in {j .. k} do x := (c"
            + "ode(\"q\")) mod 3;\n end;\n",
            175, 9, "9 0 0 145 0 0 45 0 0 4", "18 0 5 372 0 0 102 0 2 0",
            "");
        run(41, "var n,m,o,s,t,u,v,w,x,z,y,q,b,p0,p1,p2,p3,p4,p5,p6,p7,p8,p9,p10,p11,p12,p13,p14,p15,p16,p17,p18,p19,"
            + "p20,p21,p22,p23; func rec(k) = if k = 0 then 0 else 1 + rec(k - 1) end; proc rp(k, rd a, rw c); var "
            + "l, ll; l := a; ll := [a]; if k > 0 then rp(k - 1, a, c); else c := {k}; end; end; n := 7; m := 12; o"
            + " := 100; s := {1,2}; t := {[1,2],[2,3]}; u := {}; v := [1,2,3]; w := []; x := [[1]]; z := \"abc\"; y :"
            + "= \"\"; q := \"q\";\nm := m div n;\nn := (- (- 13726809265680349537));\nv := [s];\np3 := w;\nm := (2 ** 1023 "
            + "+ (2 ** 1023 - 1));\nw := w(2..1);",
            190, 9, "9 0 0 373 0 0 63 0 0 9", "18 0 4 520 0 0 96 0 2 4",
            "");
        run(42, "var i, j, k, s, t, u, v, w, z, f, g, b1, x, y, a1;\ni := 4294967296;\nj := 3;\nk := 1234567890123456789"
            + "01234567890;\ns := {};\nt := {2, 20, 9};\nu := [1, 3];\nv := [4,4,4];\nw := \"\";\nz := \"abc\";\nf := {[1, 2],"
            + " [1, 3], [2, 5]};\ng := {[5,6],[6,5]};\nb1 := false;\nx := {1, 3, 5};\ny := \"a\";\na1 := om;\nprint(z(1 .. "
            + "0)); print([1..5]); print(s - ({1..3})); while k < 6 do k + := 1; if not b1 then w fromb w;\n elseif "
            + "if if false then b1 else b1 end then (exists [d, n0] in g | false) else (\"\") < z end then \n end; k :"
            + "= j;\n end; while k < 9 do k + := 1; while i < 2 do i + := 1; print(b1, om);\n end;\n end; if ok then j"
            + " + := code(\"q\"); print(om);\n else if if b1 and b1 then false else w in z end then fail;\n elseif b1 t"
            + "hen print(b1);\n end;\n end; x := {4 + j .. i}; while j < 9 do j + := 1; if ok then f(code(\"q\")) := 55"
            + "664; stop;\n else \n end; if \"abc\" then w - := ((\"hello world\")(1 .. 0)) + (z(1 .. 0));\n else \n end;\n "
            + "end; print((\"hello world\") in (\"hello world\"));\n",
            197, 12, "12 0 0 238 0 0 64 0 0 0", "24 23 5 727 0 1 142 0 2 4",
            "\n[1, 2, 3, 4, 5]\n{}\nom\n");
        run(43, "var n,m,o,s,t,u,v,w,x,z,y,q,b,p0,p1,p2,p3,p4,p5,p6,p7,p8,p9,p10,p11,p12,p13,p14,p15,p16,p17,p18,p19,"
            + "p20,p21,p22,p23; func rec(k) = if k = 0 then 0 else 1 + rec(k - 1) end; proc rp(k, rd a, rw c); var "
            + "l, ll; l := a; ll := [a]; if k > 0 then rp(k - 1, a, c); else c := {k}; end; end; n := 7; m := 12; o"
            + " := 100; s := {1,2}; t := {[1,2],[2,3]}; u := {}; v := [1,2,3]; w := []; x := [[1]]; z := \"abc\"; y :"
            + "= \"\"; q := \"q\";\nfor i in {1..3} do z := \"abcdefgh\" * 450; end;\ns := {for i in {1..120}, j in [1..10]"
            + " : j};\nq := \"abcdefgh\" * 450;\nprint(s);\no := (- (- (- 54718816)));\nrp(20, z, v(1));\np13 := w;\ny := y"
            + " + q;\ns := {for i in v, j in {1..5} : [i, j]};\nx := w(1..# v);\ns := pow({\"\",[],{},0,false,true,newat"
            + "});\ny := \"abcdefgh\" * 600;\nw := [x];",
            209, 38, "38 32 0 207 5 0 14519 0 0 0", "77 32 6 240 14 0 39792 0 2 4",
            "{1, 2, 3, 4, 5, 6, 7, 8, 9, 10}\n");
        run(44, "var i, j, k, s, t, u, v, w, z, f, g, b1, x, y, a1;\nfunc fn0() = b1;\nfunc fn1(p0) = (v);\nproc pr0(rd "
            + "q0, wr q1, q2); var lv; lv := 3;t := {+/ (s + {4}) .. random(6)};\n end;\ni := 3;\nj := 3;\nk := 0;\ns :="
            + " {};\nt := {1..1};\nu := [1..1];\nv := [1..1];\nw := \"a\";\nz := \"zz\";\nf := {[1, 2], [1, 3], [2, 5]};\ng :="
            + " {[5,6],[6,5]};\nb1 := false;\nx := {[1,1]};\ny := \"abc\";\na1 := newat;\nwhile b1 do j + := 1; \n end; pri"
            + "nt(fn0()); t := pr0([for s in t : b1], t, f); if (exists s in s | true) then u(3) + := k; print(i no"
            + "tin v);\n else g := f;\n end; pr0(u, i, f + f); u := [j, 77703 .. 134217728]; pr0(v, g, {[k, i], [k, k"
            + "]}); print({for d in t : [k, {}]}); if ok then f(code(\"q\")) := 5; x := newat;\n elseif ((z)) in ((\"zz"
            + "\") * 0) then \n end; if fn0() then for i in {2, 20, 9} do if b1 then x := ok;\n end; f{k} := {}; print"
            + "(fn0());\n end; x := (a1);\n end; pr0(([]) + u, u, {[i, k], [j, 3]}); b1 := (i ** 40) notin ({8, j .. "
            + "i});\n",
            212, 13, "13 0 0 329 0 0 56 0 0 15", "26 6 5 546 0 0 61 1 2 4",
            "false\n");
        run(45, "var n,m,o,s,t,u,v,w,x,z,y,q,b,p0,p1,p2,p3,p4,p5,p6,p7,p8,p9,p10,p11,p12,p13,p14,p15,p16,p17,p18,p19,"
            + "p20,p21,p22,p23; func rec(k) = if k = 0 then 0 else 1 + rec(k - 1) end; proc rp(k, rd a, rw c); var "
            + "l, ll; l := a; ll := [a]; if k > 0 then rp(k - 1, a, c); else c := {k}; end; end; n := 7; m := 12; o"
            + " := 100; s := {1,2}; t := {[1,2],[2,3]}; u := {}; v := [1,2,3]; w := []; x := [[1]]; z := \"abc\"; y :"
            + "= \"\"; q := \"q\";\nv := [1..5];\nv := [for i in z | i /= 3 : om];\nt{n} := {};\np23 := z;\nv := x(1..# v);\n"
            + "v(# v + 1 .. 1) := [];\nprint(n, z);\nz := \"abcdefgh\" * 600;\nw := [for i in s | true : [i]];\nt := {for"
            + " i in {1..20}, j in {1..30} : j};\nu{1} := s;\nv := x + w;\nt := t{n};\ny := str(u);",
            240, 9, "9 0 0 373 0 0 63 0 0 9", "18 0 4 500 0 0 60 0 2 8",
            "");
        run(46, "var i, j, k, s, t, u, v, w, z, f, g, b1, x, y, a1;\nfunc fn0(p0, p1, p2) = [for c in ({for d in s : d"
            + "}) : om];\nproc pr0(q0, q1); var lv; lv := 8;g(arb({1} + q0)) := [5,6,7,8](1);\n end;\ni := 5;\nk := 2;\n"
            + "s := {};\nt := {};\nu := [];\nv := [1..4];\nw := \"a\";\nz := \"hello world\";\nf := {[1,1]};\ng := {[1,1]};\nb1"
            + " := true;\nx := {2, 20, 9};\ny := [4,4,4];\na1 := om;\nb1 := (exists h in t - ({1, 3, 5}) | 9 in s); v(2"
            + ") * := 1; if ok then print(om);\n else while ((forall [i, n0] in {[1, 2], [1, 3], [2, 5]}, h in z | b"
            + "1)) do j + := 1; g := {for [h, n0] in {[k, j], [0, 3]} : [123456789012345678901234567890, om]}; prin"
            + "t([4, 4 .. i]);\n end; [s] := [for i in w | true : {}];\n end; print(v, w); for h in t, m1 in {k .. i}"
            + " | true do f(i) := pr0(s - t, - k); [-, b1, z(1 .. # z)] := ([]) + ([for s in s | b1 : 36992]); if ("
            + "s subset ({1, 3, 5})) and ((true)) then stop;\n end;\n end; f(random(100)) := (134217728 * (max / (t +"
            + " {5}))) ** 40; [k, b1] := u; for i in type((z)) do \n end; w frome z; g := {[1, 2], [1, 3], [2, 5]}; "
            + "for e in {[5,6,7,8](3)} | (exists i in t | b1) do \n end; for c in {1..0} | if b1 then b1 else b1 end"
            + " do for h in domain(if b1 then g else f end) do \n end; z(1 .. # z) := w;\n end; t + := {1..2};\n",
            244, 10, "10 0 0 284 0 0 45 0 0 15", "21 18 5 858 0 1 114 0 2 20",
            "om\n[1, 2, 3, 4] a\n");
        run(47, "var n,m,o,s,t,u,v,w,x,z,y,q,b,p0,p1,p2,p3,p4,p5,p6,p7,p8,p9,p10,p11,p12,p13,p14,p15,p16,p17,p18,p19,"
            + "p20,p21,p22,p23; func rec(k) = if k = 0 then 0 else 1 + rec(k - 1) end; proc rp(k, rd a, rw c); var "
            + "l, ll; l := a; ll := [a]; if k > 0 then rp(k - 1, a, c); else c := {k}; end; end; n := 7; m := 12; o"
            + " := 100; s := {1,2}; t := {[1,2],[2,3]}; u := {}; v := [1,2,3]; w := []; x := [[1]]; z := \"abc\"; y :"
            + "= \"\"; q := \"q\";\nu := pow({\"\",[],{},0,false,true,newat});\nfor i in v do x := [for i in s | i /= 3 : i"
            + "f i = 100 then i else om end]; p7 := u; u := t * u; end;\nb := ok;\ny := str(t);\nv := [0..500];\nprint("
            + "s);\nz := \"abcdefgh\" * 450;\ns := {1..498};\ns := {1..400};\np11 := s;\ns := {for i in s, j in [1..10] : "
            + "[j]};",
            248, 13, "13 0 0 416 0 0 642 1 0 590", "26 0 5 579 0 1 130 1 2 3",
            "");
        run(48, "var i, j, k, s, t, u, v, w, z, f, g, b1, x, y, a1;\nfunc fn0(p0, p1) = b1;\nproc pr0(rw q0, wr q1); va"
            + "r lv; lv := 1;if ok then [-] := v;\n else \n end; while if 5 in u then not b1 else b1 end do j + := 1;"
            + " print(([i, j .. lv]) * 0, (134217727 mod 3) > (j * j), (if b1 then {} else {[1, 2]} end) + ({for i "
            + "in s : [i, f]}));\n end; for s in t do \n end;\n end;\nproc pr1(); var lv; lv := 3;if ((\"abc\") in w) or "
            + "(t subset t) then for s in (type({1, 3, 5})) + (rev(\"zz\")) | t subset ({1, 3, 5}) do \n end;\n else g{"
            + "k} := {k .. j}; u(1 .. # u) := v;\n end;\n end;\ni := 5;\nj := 4294967296;\nk := 3;\ns := {1, 3, 5};\nt := "
            + "{2, 20, 9};\nu := [];\nv := [1..5];\nw := \"\";\nz := \"abc\";\nf := {[1, 2]};\ng := {[1, 2], [1, 3], [2, 5]};"
            + "\nb1 := true;\nx := {1, 3, 5};\ny := [4,4,4];\na1 := om;\nwhile i < 5 do i + := 1; \n end; for [h, n0] in "
            + "{} | b1 do print(s); b1 := ok;\n end; [b1, i] := v; print(s); pr1(); w := w; g{2} * := ({k .. k}) - ("
            + "if b1 then t else s end); z(1 .. # z) + := (char(84631 mod 256)); [-, v(1), u] := v; for h in ({for "
            + "d in \"zz\" | true : 0}) do w(1 .. # w) + := rev(z); pr0(w, t);\n end;\n",
            263, 12, "12 0 0 701 0 0 65 0 0 0", "25 10 9 876 0 0 78 0 2 5",
            "{1, 3, 5}\n");
        run(49, "var n,m,o,s,t,u,v,w,x,z,y,q,b,p0,p1,p2,p3,p4,p5,p6,p7,p8,p9,p10,p11,p12,p13,p14,p15,p16,p17,p18,p19,"
            + "p20,p21,p22,p23; func rec(k) = if k = 0 then 0 else 1 + rec(k - 1) end; proc rp(k, rd a, rw c); var "
            + "l, ll; l := a; ll := [a]; if k > 0 then rp(k - 1, a, c); else c := {k}; end; end; n := 7; m := 12; o"
            + " := 100; s := {1,2}; t := {[1,2],[2,3]}; u := {}; v := [1,2,3]; w := []; x := [[1]]; z := \"abc\"; y :"
            + "= \"\"; q := \"q\";\nt(998) := n;\ns := t + t;\ns := s{v};\nz := \"abcdefgh\" * 10;\nx := [s];\nt := pow({\"\",[],"
            + "{},0,false,true,om});\nq := +/ u;\nn := ok;\nt := {0, ((10 ** 115) div (10 ** 255)) .. (2 ** 1023 + (2 "
            + "** 1023 - 1))};\nfor i in \"abc\" do z := \"abcdefgh\" * 600; t := {for i in s, j in t : j}; s := pow({1,"
            + "2,3,4,5,6}); end;\ns := {1..498};",
            265, 9, "9 0 0 373 0 0 64 0 0 9", "18 0 3 484 0 0 84 0 2 4",
            "");
        run(50, "var i, j, k, s, t, u, v, w, z, f, g, b1, x, y, a1;\nfunc fn0() = (forall h in {k .. i} | not b1);\npro"
            + "c pr0(rw q0); var lv; lv := 9;u(3) := ((arb({1} + ({}))) div 12345678901) - j;\n end;\ni := 1;\nj := 0;"
            + "\nk := 9;\ns := {1, 3, 5};\nt := {1, 3, 5};\nu := [];\nv := [1, 3];\nw := \"\";\nz := \"zz\";\nf := {[1, 2], [1,"
            + " 3], [2, 5]};\ng := {[1,1]};\nb1 := true;\nx := \"\";\ny := 0;\nz(1 .. 0) := char((arb({1} + (pow(s)))) mod"
            + " 256); print(if b1 then g else {[1,1]} end); pr0(g(7)); fail;\n",
            280, 10, "10 0 0 283 0 0 49 0 0 43", "20 9 10 456 0 0 57 0 2 0",
            "{[1, 1]}\n");
        run(51, "var n,m,o,s,t,u,v,w,x,z,y,q,b,p0,p1,p2,p3,p4,p5,p6,p7,p8,p9,p10,p11,p12,p13,p14,p15,p16,p17,p18,p19,"
            + "p20,p21,p22,p23; func rec(k) = if k = 0 then 0 else 1 + rec(k - 1) end; proc rp(k, rd a, rw c); var "
            + "l, ll; l := a; ll := [a]; if k > 0 then rp(k - 1, a, c); else c := {k}; end; end; n := 7; m := 12; o"
            + " := 100; s := {1,2}; t := {[1,2],[2,3]}; u := {}; v := [1,2,3]; w := []; x := [[1]]; z := \"abc\"; y :"
            + "= \"\"; q := \"q\";\nt := {1..400};\nn := ok;\nrp(3, s, n);\nw(# v + 1 .. 1) := [];\nfor i in v do o := rec(3"
            + "); u := {for i in {1..20}, j in {1..30} : \"a\"}; end;\no := rec(20);\nw := w + x;\nx := [for i in z | i "
            + "/= 3 : i];\nn := (2 ** 27);\nrp(48, z, n);\no := (2 ** 1023 + (2 ** 1023 - 1));\nu := {for i in {1..120}"
            + ", j in {1..30} : i};\no := o mod (2 ** 26);",
            287, 16, "16 0 0 207 1 1 1725 0 0 0", "32 0 4 453 0 1 1712 0 2 9",
            "");
        run(52, "var i, j, k, s, t, u, v, w, z, f, g, b1, x, y, a1;\nfunc fn0(p0, p1, p2) = rev(if 4 >= j then w + (\"a"
            + "\") else fn0(p0, p1, {}) end);\nfunc fn1(p0) = rev(w);\nproc pr0(rw q0); var lv; lv := 8;if (i <= k) or"
            + " (if b1 then b1 else true end) then \n else for i in t, s in (s + s) + ({2, 20, 9}) | not false do \n "
            + "end; print(om);\n end; print(i); q0 fromb b1;\n end;\ni := 4;\nj := 7;\nk := 8;\ns := {};\nt := {1..6};\nu :"
            + "= [1, 3];\nv := [];\nw := \"a\";\nz := \"zz\";\nf := {[5,6],[6,5]};\ng := {[1,1]};\nb1 := true;\nx := {[1, 2], "
            + "[1, 3], [2, 5]};\ny := [];\na1 := newat;\nif not (if b1 then b1 else b1 end) then pr0(u);\n end; print({"
            + "[1,1]}); v := v; b1 := b1; i := min / (({j, j .. 5}) + {0}); [-, u(# u + 1)] := [1..0]; y := t; for "
            + "h in {1..4} do \n end; assert (rev(w)) in ((\"hello world\") * 2); print(if true then w else z end); fo"
            + "r i in ((\"zz\") + w) + (str(f)), h in ([4,4,4]) do y + := newat; v := u;\n end; f(j) := abs(# ({1, 3, "
            + "5})); g(if b1 then j else j end) := random({1..5});\n",
            295, 12, "12 0 0 474 0 0 54 0 0 0", "24 9 8 722 0 0 80 1 2 16",
            "{[1, 1]}\n");
        run(53, "var n,m,o,s,t,u,v,w,x,z,y,q,b,p0,p1,p2,p3,p4,p5,p6,p7,p8,p9,p10,p11,p12,p13,p14,p15,p16,p17,p18,p19,"
            + "p20,p21,p22,p23; func rec(k) = if k = 0 then 0 else 1 + rec(k - 1) end; proc rp(k, rd a, rw c); var "
            + "l, ll; l := a; ll := [a]; if k > 0 then rp(k - 1, a, c); else c := {k}; end; end; n := 7; m := 12; o"
            + " := 100; s := {1,2}; t := {[1,2],[2,3]}; u := {}; v := [1,2,3]; w := []; x := [[1]]; z := \"abc\"; y :"
            + "= \"\"; q := \"q\";\nt{1} := s;\nu := t * u;\nt := {s};\ns := {z};\ns := pow({1,2,3,4,5,6});\nw(1 .. # v) := v"
            + ";\np12 := w;\ns := s{v};\nm := (2 ** 1023 + (2 ** 1023 - 1));\ns := {for i in v, j in [1..10] : [i, j]};"
            + "\nt := {(10 ** 226), 0 .. (10 ** 304)};\nt := s - u;",
            320, 9, "9 0 0 373 0 0 63 0 0 9", "18 0 4 484 0 0 504 0 2 4",
            "");
        run(54, "var i, j, k, s, t, u, v, w, z, f, g, b1, x, y, a1;\nfunc fn0(p0, p1) = fn0(i - 26508, [for d in s, s "
            + "in {} | b1 : s]);\nproc pr0(); var lv; lv := 5;if true then z(1 .. 0) := \"abc\"; if z > (if true then "
            + "\"zz\" else \"zz\" end) then \n end;\n elseif not b1 then \n end; x := v;\n end;\nproc pr1(wr q0, rw q1); var"
            + " lv; lv := 0;b1 := pr1(j, f); if ok then print(om); v(3) := [5,6,7,8](2);\n end; [z, w, -] := v; q1 :"
            + "= [k, 1 .. 1];\n end;\ni := 4;\nj := 2;\nk := 134217727;\ns := {};\nt := {1..0};\nu := [4,4,4];\nv := [4,4,4"
            + "];\nw := \"a\";\nz := \"\";\nf := {[1,1]};\ng := {};\nb1 := false;\nx := {};\ny := {2, 20, 9};\na1 := newat;\npri"
            + "nt(newat); pr1(z, s); while i < 5 do i + := 1; \n end; z(1 .. 0) := (str(fn0(j, [1, 3]))); pr0(); f(8"
            + " mod 2) := k; print({});\n",
            326, 58, "58 3 0 305 21 0 205 2 0 1", "117 3 7 313 50 0 437 2 2 0",
            "#2\n");
        run(55, "var n,m,o,s,t,u,v,w,x,z,y,q,b,p0,p1,p2,p3,p4,p5,p6,p7,p8,p9,p10,p11,p12,p13,p14,p15,p16,p17,p18,p19,"
            + "p20,p21,p22,p23; func rec(k) = if k = 0 then 0 else 1 + rec(k - 1) end; proc rp(k, rd a, rw c); var "
            + "l, ll; l := a; ll := [a]; if k > 0 then rp(k - 1, a, c); else c := {k}; end; end; n := 7; m := 12; o"
            + " := 100; s := {1,2}; t := {[1,2],[2,3]}; u := {}; v := [1,2,3]; w := []; x := [[1]]; z := \"abc\"; y :"
            + "= \"\"; q := \"q\";\np18 := u;\nm := m mod m;\nv(1 .. 0) := v;\nm := m * m;\nw := x + v;\nw(# v + 1 .. 1) := v"
            + ";\np16 := u;\ny := y + y;\nz := \"abcdefgh\" * 500;\nz(1 .. # v) := \"qq\";\ns := s{v};",
            340, 9, "9 0 0 373 0 0 63 0 0 9", "18 0 4 480 0 0 85 0 2 8",
            "");
        run(56, "var i, j, k, s, t, u, v, w, z, f, g, b1, x, y, a1;\nproc pr0(); var lv; lv := 5;assert (w in w); whil"
            + "e ({[1,2],3}) /= om do lv + := 1; \n end; if ok then if ok then print(z + z); y := rev(u);\n end;\n els"
            + "e \n end; j := ([for e in {} : g])(arb({1} + ({for [e, n0] in {[1, 2], [1, 3], [2, 5]} : lv})));\n end"
            + ";\nproc pr1(rd q0); var lv; lv := 7;lv := (random({1..5})) ** 2; u := a1; lv := ok; pr1({});\n end;\ni "
            + ":= 3;\nj := 1;\nk := 89675;\ns := {2, 20, 9};\nt := {1..6};\nu := [];\nv := [4,4,4];\nw := \"\";\nz := \"\";\nf :"
            + "= {[5,6],[6,5]};\ng := {[5,6],[6,5]};\nb1 := false;\nx := [4,4,4];\ny := \"abc\";\na1 := newat;\nb1 := ok; z"
            + "(1 .. # z) := pr1({for s in u : [k, b1]}); print(u); pr0(); k frome g(arb({1} + t)); k + := i; for h"
            + " in (domain({for h in {2, 20, 9}, s in z : [j, v]})), c in ({h}) + (s - t) do pr0(); while b1 do c +"
            + " := 1; \n end;\n end; if b1 then \n else \n end; print(u(1 .. 0)); for c in s do f{9 div 12345678901} :="
            + " t; print((w(1 .. 0)) + (rev(\"zz\")), {j, i .. k});\n end; for [s, n0] in f, m1 in s do print(v + v); "
            + "print(newat); z(1 .. # z) from g;\n end;\n",
            346, 58, "58 0 0 327 9 9 849 1 0 2", "116 0 6 373 20 20 2015 1 2 0",
            "");
        run(57, "var n,m,o,s,t,u,v,w,x,z,y,q,b,p0,p1,p2,p3,p4,p5,p6,p7,p8,p9,p10,p11,p12,p13,p14,p15,p16,p17,p18,p19,"
            + "p20,p21,p22,p23; func rec(k) = if k = 0 then 0 else 1 + rec(k - 1) end; proc rp(k, rd a, rw c); var "
            + "l, ll; l := a; ll := [a]; if k > 0 then rp(k - 1, a, c); else c := {k}; end; end; n := 7; m := 12; o"
            + " := 100; s := {1,2}; t := {[1,2],[2,3]}; u := {}; v := [1,2,3]; w := []; x := [[1]]; z := \"abc\"; y :"
            + "= \"\"; q := \"q\";\np16 := v;\nt := {1..498};\nfor i in s do  end;\ns := pow({1,2,3,4,5,6});\nv := [n];\nz :="
            + " z + y;\nrp(50, s, s);\nn := ok;\nb := ok;\ns{v} := {1..10};\nw := x(1..2);\nv := [for i in s | i /= 3 : i"
            + "f i = 100 then i else om end];\ny := str(n);\nm := m div (10 ** 161);",
            390, 51, "51 0 0 240 9 0 16792 0 0 4", "103 0 6 240 21 0 39277 0 2 4",
            "");
        run(58, "var i, j, k, s, t, u, v, w, z, f, g, b1, x, y, a1;\nfunc fn0(p0) = p0;\nproc pr0(); var lv; lv := 6;s "
            + ":= if (if b1 then b1 else b1 end) then t else {} end; z + := (\"zz\") + ((\"a\") + w); pr0();\n end;\ni :="
            + " 3;\nj := 2;\nk := 5;\ns := {2, 20, 9};\nt := {1, 3, 5};\nu := [1..0];\nv := [1, 3];\nw := \"\";\nz := \"\";\nf :"
            + "= {[5,6],[6,5]};\ng := {[5,6],[6,5]};\nb1 := true;\nx := \"\";\ny := \"a\";\na1 := newat;\nfor i in [j, 9 .. 1"
            + "] | (b1) do j + := code(\"q\"); for h in \"hello world\" do b1 * := 25761 notin ([5, i .. k]); x + := i;"
            + " print(if t = b1 then s else {1..5} end, rev(z + (\"abc\")));\n end;\n end; u := v * 3; if (w + (\"\")) <="
            + " (char(i mod 256)) then \n end; y * := - (arb({1} + t)); z + := rev(fn0(\"hello world\")); f := {for s "
            + "in {1..4} : [(j), (\"abc\") > (\"hello world\")]}; print(k ** 3); s := {1..3}; v(2) := j; if b1 then pri"
            + "nt([for e in z | true : w]); if b1 then z(1 .. # z) := (\"zz\"); print((forall e in t | false));\n else"
            + " \n end;\n end; f * := {for c in v : [c, om]}; for d in (if j >= 2147483648 then str(\"hello world\") el"
            + "se rev(w) end), i in ({1, 3, 5}) * ({k .. 2}) do [i] := [i, k .. k]; print(({}) + ({2, 20, 9})); v(1"
            + ") := (min / (({1..6}) + {9})) mod 2;\n end; for d in ([for d in {}, e in u : s]) do print(g, w);\n end"
            + ";\n",
            398, 9, "9 0 0 288 0 0 39 0 0 1", "19 0 4 631 0 0 72 1 2 16",
            "");
        run(59, "var n,m,o,s,t,u,v,w,x,z,y,q,b,p0,p1,p2,p3,p4,p5,p6,p7,p8,p9,p10,p11,p12,p13,p14,p15,p16,p17,p18,p19,"
            + "p20,p21,p22,p23; func rec(k) = if k = 0 then 0 else 1 + rec(k - 1) end; proc rp(k, rd a, rw c); var "
            + "l, ll; l := a; ll := [a]; if k > 0 then rp(k - 1, a, c); else c := {k}; end; end; n := 7; m := 12; o"
            + " := 100; s := {1,2}; t := {[1,2],[2,3]}; u := {}; v := [1,2,3]; w := []; x := [[1]]; z := \"abc\"; y :"
            + "= \"\"; q := \"q\";\nfor i in {1..3} do for i in {1..12} do x(n) := 1; end; w(1 .. # v) := []; end;\ns := "
            + "{1..498};\nprint(s);\nw := [for i in {1..200} | exists c in {1..10} | c = i : [i]];\nu{v} := s;\ns := +/"
            + " u;\ns{1} := {1..10};",
            410, 13, "13 0 0 416 0 0 75 0 0 12", "27 0 4 471 0 0 82 0 2 5",
            "");
        run(60, "var i, j, k, s, t, u, v, w, z, f, g, b1, x, y, a1;\nfunc fn0() = if b1 then j else j end;\nfunc fn1() "
            + "= g;\nproc pr0(wr q0, rd q1, wr q2); var lv; lv := 5;b1 := if b1 and b1 then b1 else j > (i div (0-7)"
            + ") end; k := j;\n end;\nproc pr1(wr q0, rd q1); var lv; lv := 3;for c in {1..2} do if (- k) notin s the"
            + "n w(1 .. # w) := \"hello world\"; t := {j, i .. 9};\n elseif false then \n elseif b1 then print(({1, 3, "
            + "5}) + q0); return c;\n end;\n end; b1 := b1; b1 := ok; y := k;\n end;\ni := 2;\nj := 2;\nk := 5;\ns := {2, "
            + "20, 9};\nt := {1..2};\nu := [];\nv := [1, 3];\nw := \"zz\";\nz := \"\";\nf := {};\ng := {[5,6],[6,5]};\nb1 := tr"
            + "ue;\nx := {1..1};\ny := [4,4,4];\na1 := om;\nu := pr1(b1, {[5,6],[6,5]}); t := {1, 3, 5}; pr0(v, [for e "
            + "in z : []], f(i div 3)); b1 := (fn0()) > i; i + := k + 9; b1 + := (type(g)) in (rev(z));\n",
            417, 15, "15 0 0 631 0 0 51 0 0 0", "31 0 9 152 1 1 119 0 2 0",
            "");
        run(61, "var n,m,o,s,t,u,v,w,x,z,y,q,b,p0,p1,p2,p3,p4,p5,p6,p7,p8,p9,p10,p11,p12,p13,p14,p15,p16,p17,p18,p19,"
            + "p20,p21,p22,p23; func rec(k) = if k = 0 then 0 else 1 + rec(k - 1) end; proc rp(k, rd a, rw c); var "
            + "l, ll; l := a; ll := [a]; if k > 0 then rp(k - 1, a, c); else c := {k}; end; end; n := 7; m := 12; o"
            + " := 100; s := {1,2}; t := {[1,2],[2,3]}; u := {}; v := [1,2,3]; w := []; x := [[1]]; z := \"abc\"; y :"
            + "= \"\"; q := \"q\";\nfor i in \"abc\" do x := x + v; q := str(n); end;\nrp(20, v, s);\nn := ok;\nprint(v);\nt :"
            + "= u + t;\nfor i in {1..12} do m := rec(25); end;\nrp(50, v, v(1));\nprint(n, z);",
            433, 54, "54 0 0 215 9 0 346 0 0 8", "109 10 7 529 0 1 189 0 2 162",
            "[1, 2, 3]\n");
        run(62, "var i, j, k, s, t, u, v, w, z, f, g, b1, x, y, a1;\nproc pr0(rd q0, q1); var lv; lv := 9;for d in {1,"
            + " 3, 5} do if 134217728 <= (- 3) then u + := [for [s, n0] in {[1, 2]} | b1 : a1]; if ((exists s in q0"
            + " | true)) or ((exists i in s | false)) then print(lv); print(z);\n else print(rev(w));\n end;\n end; u("
            + "2) + := min / ((s + ({1..0})) + {4}); print(i);\n end; print(i);\n end;\ni := 6;\nj := 4;\nk := 5;\ns := {"
            + "1, 3, 5};\nt := {1, 3, 5};\nu := [1, 3];\nv := [4,4,4];\nw := \"a\";\nz := \"a\";\nf := {[1, 2]};\ng := {[5,6],"
            + "[6,5]};\nb1 := false;\nx := {2, 20, 9};\ny := [];\na1 := newat;\nprint(i); for c in ([for s in t : z]), d"
            + " in s | (exists i in t | b1) do \n end; j := if (# ({2, 20, 9})) /= k then i else (k * k) - (j - 4294"
            + "967296) end; x := pr0({2, 20, 9}, {4294967296}); fail; if ok then \n else print({[1, j], [i, 2]}); pr"
            + "int((\"zz\") * 0);\n end; print({for i in {1, 3, 5}, [d, n1] in f : [9, w]}); while i < 2 do i + := 1; "
            + "\n end; b1 + := b1; for c in {2, 20, 9} | b1 do z(1 .. 0) - := (\"a\") * 0;\n end; u := [4,4,4];\n",
            440, 16, "16 2 0 560 0 0 66 1 0 0", "32 10 10 749 0 0 60 1 2 0",
            "6\n6\n6\n6\n6\n");
        run(63, "var n,m,o,s,t,u,v,w,x,z,y,q,b,p0,p1,p2,p3,p4,p5,p6,p7,p8,p9,p10,p11,p12,p13,p14,p15,p16,p17,p18,p19,"
            + "p20,p21,p22,p23; func rec(k) = if k = 0 then 0 else 1 + rec(k - 1) end; proc rp(k, rd a, rw c); var "
            + "l, ll; l := a; ll := [a]; if k > 0 then rp(k - 1, a, c); else c := {k}; end; end; n := 7; m := 12; o"
            + " := 100; s := {1,2}; t := {[1,2],[2,3]}; u := {}; v := [1,2,3]; w := []; x := [[1]]; z := \"abc\"; y :"
            + "= \"\"; q := \"q\";\nq := str(u);\nz := +/ v;\nrp(20, z, s);\nt := pow({\"\",[],{},0,false,true,om});\nu := {(2"
            + " ** 64 - 1), (- (2 ** 27 - 1)) .. 867163646107910523};\nv := [for i in s | true : if i = 100 then i e"
            + "lse om end];\nu := pow({\"\",[],{},0,false,true,newat});\nt := {for i in v, j in {1..30} : [i, j]};\nrp(6"
            + "0, z, n);\nx(999) := s;\nt := {z};\nz := \"abcdefgh\" * 600;\no := rec(25);",
            445, 50, "50 0 0 226 9 0 191 0 0 2", "100 0 3 454 0 0 62 0 2 4",
            "");
        run(64, "var i, j, k, s, t, u, v, w, z, f, g, b1, x, y, a1;\nfunc fn0() = w;\nfunc fn1(p0, p1) = (u = (arb({1} "
            + "+ ({1..6})))) and b1;\nproc pr0(rw q0, rd q1, rd q2); var lv; lv := 8;k + := (random(2147483647)) ** "
            + "2; if ok then for i in ({1, 3, 5}) * t | fn1(t, q0) do w(1 .. 0) := (str(# v)); if ok then print([fo"
            + "r e in s | b1 : b1]); print(type(z));\n else \n end; for e in {1, 3, 5} do q0 + := s; print({[1, 2]});"
            + " print({for [i, n0] in g : [e, b1]});\n end;\n end;\n end; if (z + (\"a\")) in (fn0()) then \n elseif b1 t"
            + "hen \n elseif (arb({1} + s)) in ({1..2}) then for c in v do z(1 .. 0) := fn0();\n end; q1(0) := 4;\n el"
            + "seif (type(b1)) in (str(b1)) then \n else if ok then stop;\n elseif (i * i) > (arb({1} + s)) then if j"
            + " = ([1..2]) then stop; print({for c in w : [lv, f]});\n end;\n end;\n end; x + := [k, lv .. j];\n end;\np"
            + "roc pr1(rw q0); var lv; lv := 5;f := {[1,1]};\n end;\ni := 2;\nj := 0;\nk := 123456789012345678901234567"
            + "890;\ns := {2, 20, 9};\nt := {};\nu := [];\nv := [];\nw := \"abc\";\nz := \"abc\";\nf := {};\ng := {};\nb1 := tru"
            + "e;\nx := {[1,1]};\ny := [1..2];\na1 := om;\ng(arb({1} + s)) := (max / ((t * ({})) + {1})) + (random(6));"
            + " print(newat); if k > j then print(j + 1); y := 9;\n elseif fn1({}, s) then assert b1;\n end; print(no"
            + "t ({[1, 2], [1, 3], [2, 5]})); pr1(x); u(1 .. # u) - := (v); f(j) := arb({1} + (pow(t)));\n",
            462, 10, "10 0 0 973 0 0 28 0 0 1", "21 5 9 1192 0 0 39 1 2 43",
            "#1\n1\n");
        run(65, "var n,m,o,s,t,u,v,w,x,z,y,q,b,p0,p1,p2,p3,p4,p5,p6,p7,p8,p9,p10,p11,p12,p13,p14,p15,p16,p17,p18,p19,"
            + "p20,p21,p22,p23; func rec(k) = if k = 0 then 0 else 1 + rec(k - 1) end; proc rp(k, rd a, rw c); var "
            + "l, ll; l := a; ll := [a]; if k > 0 then rp(k - 1, a, c); else c := {k}; end; end; n := 7; m := 12; o"
            + " := 100; s := {1,2}; t := {[1,2],[2,3]}; u := {}; v := [1,2,3]; w := []; x := [[1]]; z := \"abc\"; y :"
            + "= \"\"; q := \"q\";\nrp(3, s, s);\nu := pow({\"\",[],{},0,false,true,om});\nv(1 .. # v) := [1,2];\ns{1} := {};"
            + "\ns := s{n};\ns := {1..300};\ny := y + q;\nprint(n, z);\nq := q + z;\nt := t{v};\nprint(n, z);\nv := [x];",
            504, 15, "15 0 0 215 1 0 88 0 0 6", "30 0 3 429 0 0 62 0 2 4",
            "");
        run(66, "var i, j, k, s, t, u, v, w, z, f, g, b1, x, y, a1;\nfunc fn0(p0) = (type(7 + i)) + (rev((\"zz\") + w));"
            + "\ni := 8;\nj := 0;\nk := 64757;\ns := {1, 3, 5};\nt := {};\nu := [1..4];\nv := [];\nw := \"a\";\nz := \"abc\";\nf "
            + ":= {[5,6],[6,5]};\ng := {[1, 2], [1, 3], [2, 5]};\nb1 := true;\nx := [];\ny := {};\na1 := newat;\nx := ok;"
            + " fail; j * := */ (({}) + {97581}); i := ((k)) ** 0; if (z(1 .. 0)) >= (if false then z else \"\" end) "
            + "then \n else y + := [j, k .. i];\n end; for [e, n0] in (if b1 then {for [s, n0] in f, d in s : [214748"
            + "3648, v]} else g end) do b1 := ((({}) subset t) or b1) and (((z)) >= w); [f] := [i .. 3];\n end; u(4)"
            + " := 123456789012345678901234567890; z(1 .. # z) := w; while ((\"\") * 3) <= (rev(\"hello world\")) do j "
            + "+ := 1; b1 := z in (rev(\"abc\")); s := {2, 20, 9};\n end; b1 := b1 or b1; if ok then \n elseif (z + w) "
            + ">= (char(k mod 256)) then \n elseif b1 then \n end; while k < 3 do k + := 1; \n end; print(type(w));\n",
            512, 9, "9 0 0 186 0 0 35 0 0 2", "18 0 10 301 0 0 60 1 2 0",
            "");
        run(67, "var n,m,o,s,t,u,v,w,x,z,y,q,b,p0,p1,p2,p3,p4,p5,p6,p7,p8,p9,p10,p11,p12,p13,p14,p15,p16,p17,p18,p19,"
            + "p20,p21,p22,p23; func rec(k) = if k = 0 then 0 else 1 + rec(k - 1) end; proc rp(k, rd a, rw c); var "
            + "l, ll; l := a; ll := [a]; if k > 0 then rp(k - 1, a, c); else c := {k}; end; end; n := 7; m := 12; o"
            + " := 100; s := {1,2}; t := {[1,2],[2,3]}; u := {}; v := [1,2,3]; w := []; x := [[1]]; z := \"abc\"; y :"
            + "= \"\"; q := \"q\";\ns := t - u;\nn := rec(10);\nm := +/ x;\nt := t{n};\nrp(20, v, v(1));\nm := rec(25);\ns := "
            + "{w};",
            515, 51, "51 0 0 215 9 0 296 0 0 8", "102 0 7 481 0 0 62 0 2 162",
            "");
        run(68, "var i, j, k, s, t, u, v, w, z, f, g, b1, x, y, a1;\nfunc fn0(p0, p1, p2) = w;\nfunc fn1(p0, p1, p2) = "
            + "if fn1({2, 20, 9}, j, p2) then (exists e in p0 | true) else (exists c in p2 | b1) end;\nproc pr0(); v"
            + "ar lv; lv := 0;pr0();\n end;\ni := 1;\nj := 1;\nk := 3;\ns := {2, 20, 9};\nt := {};\nu := [4,4,4];\nv := [];"
            + "\nw := \"abc\";\nz := \"a\";\nf := {[5,6],[6,5]};\ng := {[1, 2]};\nb1 := true;\nx := {[5,6],[6,5]};\ny := {[5,6"
            + "],[6,5]};\na1 := newat;\nw(1 .. 0) := pr0(); for e in {1, 3, 5}, s in fn0({1, 3, 5}, v, t) do print({["
            + "1, 2], [1, 3], [2, 5]}); e := ok;\n end; f(if b1 then 4 else j end) := (i div 12345678901) + i; j := "
            + "*/ (({for d in t : d}) + {2}); for h in (domain({for h in z : [k, {1..0}]})) do \n end; print((([1..5"
            + "]) + v) * 0, i, k); u := [for c in s | t subset s : z(1 .. 0)]; print(3); j := ok;\n",
            517, 58, "58 0 0 215 22 0 92 1 0 0", "116 0 7 215 50 0 120 1 2 0",
            "");
        run(69, "var n,m,o,s,t,u,v,w,x,z,y,q,b,p0,p1,p2,p3,p4,p5,p6,p7,p8,p9,p10,p11,p12,p13,p14,p15,p16,p17,p18,p19,"
            + "p20,p21,p22,p23; func rec(k) = if k = 0 then 0 else 1 + rec(k - 1) end; proc rp(k, rd a, rw c); var "
            + "l, ll; l := a; ll := [a]; if k > 0 then rp(k - 1, a, c); else c := {k}; end; end; n := 7; m := 12; o"
            + " := 100; s := {1,2}; t := {[1,2],[2,3]}; u := {}; v := [1,2,3]; w := []; x := [[1]]; z := \"abc\"; y :"
            + "= \"\"; q := \"q\";\no := o + o;\nv := v + w;\nu := {1..50};\nb := ok;\nq := q + z;\nfail;\nfail;\nq := q + q;\nw"
            + " := [0..499];\nv(2) frome v;\nw := [for i in s | true : if i = 100 then i else om end];",
            533, 10, "10 0 0 385 0 0 64 0 0 2", "20 0 10 475 0 0 165 0 2 0",
            "");
    }

    private static void faults() {
        fault(1000, "var i, j, k, s, t, u, v, w, z, f, g, b1, x, y, a1;\nproc pr0(rw q0, rd q1, q2); var lv; lv := 1;print"
            + "(if b1 then {k .. j} else if true then {2, 20, 9} else", 2, 154);
        fault(1001, "var i, j, k, s, t, u, v, w, z, f, g, b1, x, y, a1;\nfunc fn0(p0) = {for h in {2, 20, 9} : [i, # ({1.."
            + "3})]};\nfunc fn1(p0, p1, p2) = p1 * 1;\nproc pr0(rd q0, rw q1); var lv; lv := 5;u(# u + 1) := - lv;\n e"
            + "nd;\nproc pr1(wr q0); var lv; lv := 4;print([k .. j], {[1, 2]}, if w > (\"zz\") then f else fn0({[1, 2]"
            + ", [1, 3], [2, 5]}) end); b1 := ok; x := if not b1 then g else fn0(f) end;\n end;\ni := 8;\nj := 4294967"
            + "296;\nk := 9;\ns := {};\nt := {1, 3, 5};\nu := [4,4,4];\nv := [];\nw := \"hello world\";\nz := \"a\";\nf := {[1,"
            + " 2], [1, 3], [2, 5]};\ng := {[1,1]};\nb1 := false;\nx := {[1, 2], [1, 3], [2, 5]};\ny := 2;\na1 := newat;"
            + "\nv(# v + 1) - := (j); print(str(fn0(f)), ((w))(1 .. 0), b1); print((\"abc\") < w); b1 := ok; print({1,"
            + " 3, 5});  | print((20, 9}) subset s, om); while j < 2 do j + := 1; print(rev(z)); k := arb({1} + ({1"
            + ", 3, 5}));\n end; print(newat); g(# ({1, 3, 5})) := pr1(t);\n", 2, 710);
        fault(1002, "var i, j, k, s, t, u, v, w, z, f, g, b1, x, y, a1;\nfunc fn0(p0, p1, p2) = (str(if b1 then true else "
            + "b1 end)) + (\"hello world\");\nfunc fn1(p0) = w;\nproc pr0(rw q0); var lv; lv := 3;if (([4,4,4])) = ({})"
            + " then for c in domain({[1,1]}) do u(4) frome b1; fail;\n end;\n else \n end; [-, b1, -] := rev(rev(v));"
            + "\n end;\nroc pr1(rw q0); var lv; lv := 1;f := {for c in domain(g) : [random({1..5}), om]}; print(a1); "
            + "for s in ({for d in z | b1 : i}) do for s in s, c in t | ({1, 3, 5}) subset ({1, 3, 5}) do g - := {f"
            + "or h in \"a\" : [134217728, b1]};\n end; z := fn1({2, 20, 9}); t + := {9, s, j ** 2};\n end; print(2);\n "
            + "end;\ni := 2;\nj := 0;\nk := 134217728;\ns := {};\nt := {};\nu := [];\nv := [4,4,4];\nw := \"a\";\nz := \"\";\nf :"
            + "= {[5,6],[6,5]};\ng := {[1,1]};\nb1 := false;\nx := {};\ny := {};\na1 := om;\nv(1 .. # v) + := []; v(1 .. "
            + "# v) - := v; pr1(i); w frome b1; print(domain(f)); print(s subset s);\n", 5, 307);
        fault(1003, "var i, j, k, s, t, u, v, w, z, f, g, b1, x, y, a1;\nfunc fn0(p0, p1) = 3 + ((fn0(k, [])) + 134217728)"
            + ";\nproc pr0(); var lv; lv := 5;z(1 .. 0) := (\"abc\"); u(1 .. # u) := pr0();\n end;\ni := 134217727;\nj :="
            + " 6;\nk := 6;\ns := {2, 20, 9};\nt := {};\nu := [4,4,4];\nv := [];\nw := \"abc\";\nz := \"a\";\nf := {};\ng := {[1"
            + ", 2], [1, 3], [2, 5]};\nb1 := false;\nx := 7;\ny := [4,4,4];\na1 := newat;\nfor d in \"abc\", i in {3 .. i}"
            + " do if a1 = (s * ({2, 20, 9})) then \n else \n end; print(if (exists i in {1, 3, 5} | b1) then", 2, 492);
        fault(1004, "var i, j, k, s, t, u, v, w, z, f, g, b1, x, y, a1;\nfunc fn0() = type({[1,1]});\nproc pr0(q0); var lv;"
            + " lv := 7;print((if b1 then q0 else q0 end) + ([k, i .. 0]), ((f)) = s); if ok then \n else \n end;\n en"
            + "d;\ni := 2;\nj := 6;\nk := 8;\ns := {1..2};\nt := {1, 3, 5};\nu := [1, 3];\nv := [];\nw := \"a\";\nz := \"hello "
            + "world\";\nf := {[5,6],[6,5]};\ng := {[1,1]};\nb1 := true;\nx := 7;\ny := {};\na1 := newat;\nv := [j, i .. i]"
            + "; t := s; x := ok; print(- j); assert (w + w) in (fn0()); asse1; f(if b1 then k else k end) := j; k "
            + "* := 64684; f * := {for d in z : [i, f]}; i := ok;\n", 5, 458);
        fault(1005, "var i, j, k, s, t, u, v, w, z, f, g, b1, x, y, a1;\nfunc fn0() = t;\ni := 2;\nj := 7;\nk := 6;\ns := {1.."
            + "2};\nt := {1..1};\nu := [1..1];\nv := [4,4,4];\nw := \"a\";\nz := \"a\";\nf := {[1, 2], [1, 3], [2, 5]};\ng := "
            + "{[1,1]};\nb1 := true;\nx := {1, 3, 5};\ny := [1..4];\na1 := om;\n[k] := (u + v) * 0; if ok then j := ok; "
            + "while i < 7 do i + := 1; \n end;\n elseif b1 then u(1 .. # u) := ([]) * 3;\n else \n end; while f /= (no"
            + "t b1) do i + := 1; v(w)); print(z * 2); b1 := ok; for d in {j .. j}, m1 in {j, i ** 2} | t subset ({"
            + "1, 3, 5}) do \n end; if ok then print([5,6,7,8](4)); f := f + (if w in w then {for i in [1..2] : [i, "
            + "[1, 3]]} else {[i, 1], [6, k]} end);\n elseif false then fail; print({[k, k], [k, 134217728]});\n else"
            + " f(k ** 0) := (code(\"q\")) + (k mod 12345678901);\n end; b1 := b1; while (forall c in s, h in t | b1) "
            + "do j + := 1; g{if b1 then i else k end} + := domain(if true then f else f end);\n end; x + := (rev(z)"
            + ") + (type(i)); if b1 then fail; [-] := u;\n else print(z); g(k * i) := 4294967296;\n end;\n", 2, 423);
        fault(1006, "var i, j, k, s, t, u, v, w, z, f, g, b1, x, y, a1;\nfunc fn0(p0) = rev(type(om));\nfunc fn1(p0) = str("
            + "{for [s, n0] in g : [k, f]});\ni := 9;\nj := 4;\nk := 3;\ns := {1, 3, 5};\nt := {1, 3, 5};\"\nu := [];\nv :="
            + " [1..5];\nw := \"abc\";\nz := \"abc\";\nf := {[1,1]};\ng := {[5,6],[6,5]};\nb1 := false;\nx := {2, 20, 9};\ny :"
            + "= {1, 3, 5};\na1 := om;\nt := ({for [h, n0] in f : [k, [1..6]]}){j}; if b1 then if b1 then \n elseif (f"
            + "orall [d, n0] in f, i in \"\" | b1) then \n end; f := {for [e, n0] in f : [0, (exists [d, n0] in f | b1"
            + ")]};\n else print(t); i frome s;\n end; print(rev(rev(\"zz\")), str(t), {for h in s, [s, n1] i var i; n "
            + "{[1, 2]} : [2147483648, {}]}); while ({5, j}) subset t do i + := 1; while i < 8 do i + := 1; [z(1 .."
            + " # z)] := [for h in [1, 3] | b1 : f]; for [h, n0] in {[1, 2]}, i in ({1, 3, 5}) + ({}) do \n end;\n en"
            + "d;\n end; while j < 5 do j + := 1; \n end; for e in {2, 20, 9} do for h in if (b1) then ({1, 3, 5}) el"
            + "se t end do fail;\n end; print([1..4]);\n end;\n", 1, 185);
        fault(1007, "var i, j, k, s, t, u, v, w, z, f, g, b1, x, y, a1;\nproc pr0(); var lv; lv := 1;for s in ({1..6}) + ("
            + "({1, 3, 5}) + s) do pr0(); [u] := if w in (\"abc\") then v else [1, 3] end;\n end; b1 := b1.; i := i; p"
            + "rint(type({[1, 2]}));\n end;\nproc pr1(rw q0, rw q1); var lv; lv := 0;q1(1 .. # q1) := q1; z(1 .. 0) :"
            + "= \"hello world\"; for h in [] do t := {2, 20, 9}; while (f + f) = ({[i, i], [j, h]}) do h + := 1; con"
            + "tinue; if true and (not true) then z(1 .. 0) := z; print(b1 and b1);\n elseif ((true)) or (j notin t)"
            + " then print({[1,1]});\n end;\n end;\n end; return;\n end;\ni := 2147483648;\nj := 4;\nk := 134217727;\ns := "
            + "{1..3};\nt := {1, 3, 5};\nu := [1, 3];\nv := [4,4,4];\nw := \"hello world\";\nz := \"abc\";\nf := {};\ng := {[1"
            + ", 2]};\nb1 := true;\nx := {[5,6],[6,5]};\ny := \"\";\na1 := newat;\nk from z(1 .. # z); while true do j + :"
            + "= 1; for c in {abs(2147483648), 134217728, 134217727, 134217727} do b1 := ok;\n end;\n end; t - := ({1"
            + "..1}); print((0)); i + := (abs(i)) div 12345678901;\n", 1, 188);
        fault(1008, "var i, j, k, s, t, u, v, w, z, f, g, b1, x, y, a1;\ni := 1;\nj := 4;\nk := 2;\ns := {2, 20, 9};\nt := {1,"
            + " 3, 5};\nu := [1..0];\nv := [];\nw := \"\";\nz := \"zz\";\nf := {[1,1]};\ng := {};\nb1 := true;\nx := {[5,6],[6,"
            + "5]};\ny := [1..6];\na1 := newat;\ni := ok; b1 * := z in (w(1 .. 0)); while k < 3 do k + := 1; print(if "
            + "(exists e in \"hello world\" | b1) then {for h in[2147483648, true]} else f end, (if b1 then j else j "
            + "end) + j); for c in ([1 .. k]) do if b1 then \n eJse print(i); k + := - 2147483648;\n end; u := rev([c"
            + " .. k]);\n end;\n end; if ok then \n end; print([for d in t : {1..0}]); while i < 6 do i + := 1; \n end;"
            + " if (exists [h, n0] in f, s in s | b1) then print((\"abc\")(1 .. 0));\n else while (forall [s, n0] in f"
            + " | true) do j + := 1; \n end;\n end; print(rev(\"zz\")); if true then \n else assert b1;\n end;\n", 2, 365);
        fault(1009, "var i, j, k, s, t, u, v, w, z, f, g, b1, x, y, a1;\nfunc fn0(p0) = {1, 3, 5};\nfunc fn1() = w;\nproc pr"
            + "0(rw q0, rw q1); var lv; lv := 1;if i >= ((j)) then s fromb v(3);\n end; i := [5,6,7,8](2); for e in "
            + "{1..0} do print(lv); e := +/ ((domain({[1, 2], [1, 3], [2, 5]})) + {2}); b1 + := (rev(w)) <= (w(1 .."
            + ".. 0));\n end; f(k) := (1);\n end;\ni := 134217727;\nj := 7;\nk := 5;\ns := {2, 20, 9};\nt := {2, 20, 9};\nu"
            + " := [1, 3];\nv := [1..4];\nw := \"abc\";\nz := \"hello world\";\nf := {};\ng := {[1,1]};\nb1 := false;\nx := {["
            + "5,6],[6,5]};\ny := {[5,6],[6,5]};\na1 := om;\nprint((fn0(i)) subset (fn0(2))); print([for [h, n0] in g "
            + "| b1 : newat]); z + := rev(char(3 mod 256));\n", 2, 300);
        fault(1010, "var i, j, k, s, t, u, v, w, z, f, g, b1, x, y, a1;\nfunc fn0() = (fn0()) * 0;\nproc pr0(wr q0, rw q1, "
            + "rd q2); var lv; lv := 0;v(1) := 4; b1 := ((if b1 then w else z end) in (rev(\"a\")));\n end;\nproc pr1(r"
            + "w q0); var lv; lv := 1;print((arb({1} + s)) ** 3); if (exists [d, n0] in f, [c, n1] in f | b1) then "
            + "v from u; for h in domain({[1,1]}) do \n end;\n end; [-, g((q0)) | ] := [random([3,1,4]), ({[1,1]}), 2"
            + "147483648 - q0, 8];\n end;\ni := 4294967296;\nj := 0;\nk := 1;\ns := {1..3};\nt := {1..1};\nu := [1, 3];\nv "
            + ":= [4,4,4];\nw := \"\";\nz := \"zz\";\nf := {};\ng := {};\nb1 := true;\nx := 2147483648;\ny := \"zz\";\na1 := om;\n"
            + "pr0(i, b1, 0 - i); for s in ({1, 3, 5}) - (({2, 20, 9})) | b1 do u(1 .. # u) frome v(# v + 1); v(1) "
            + ":= random({1..5}); while j < 8 do j + := 1; \n end;\n end; if (domain(f)) subset (domain({[1, 2]})) th"
            + "en u(2)(2) := {}; v * := u;\n elseif b1 then \n end; for i in (rev(w)) * 2 do \n end; print(({2, 20, 9}"
            + ") + ({1, 3, 5}));\n", 2, 363);
        fault(1011, "var i, j, k, s, t, u, v, w, z, f, g, bx, y, a1;\nfunc fn0(p0, p1, p2) = false;\nfunc fn1(p0) = fn0({fo"
            + "r s in \"\", [m1, n1] in g | b1 : m1}, {[1, 2], [1, 3], [2, 5]}, w);\nproc pr0(wr q0, wr q1, rd q2); va"
            + "r lv; lv := 9;s := ({for d in t | b1 : lv}); v from g(j * lv);\n end;\nproc pr1(); var lv; lv := 0;pri"
            + "nt({3, i .. i}, 5, newat); f{k * lv} * := ({2, 20, 9}) - ({for [h, n0] in {[1, 2]} | true : lv});\n e"
            + "nd;\ni := 7;\nj := 7;\nk := 7;\ns := {2, 20, 9};\nt := {};\nu := [4,4,", 5, 127);
        fault(1012, "var i, j, k, s, t, u, v, w, z, f, g, b1, x, y, a1;\nfunc fn0(p0, p1) = {[arb({1} + ((s))), i], [(0), "
            + "3]};\nproc pr0(rd q0); va6;for [d, n0] in {[lv ** 2, lv + lv], [# w, k]}, h in (if t subset ({1, 3, 5"
            + "}) then w else z end) do b1 := i notin t;\n end; if ok then \n else while lv < 2 do lv + := 1; \n end; "
            + "k := 134217727;\n end; if ([5,6,7,8](4)) notin ({1..2}) then \n end;\n end;\ni := 0;\nj := 7;\nk := 0;\ns :"
            + "= {1, 3, 5};\nt := {1..1};\nu := [];\nv := [4,4,4];\nw := \"zz\";\nz := \"abc\";\nf := {[1, 2], [1, 3], [2, 5]"
            + "};\ng := {[5,6],[6,5]};\nb1 := false;\nx := \"zz\";\ny := {[5,6],[6,5]};\na1 := om;\nz := w; v := [code(\"q\")"
            + " .. k + 7]; if ({for e in {} : [k, w]}) /= (u + v) then s := pr0([for [s, n0] in g | false : w]);\n e"
            + "lseif z in (rev(w)) then \n elseif 5 notin ([]) then b1 := b1;\n end; for i in u, [e, n1] in fn0(\"a\", "
            + "k) do i := ok; pr0([4,4,4]); [-, t, -] := [j, e .. 0];\n end; while j < 6 do j + := 1; \n end; print(("
            + "forall d in \"hello world\" | b1)); z + := char(k mod 256); assert false; pr0(v); b1 := false; for d i"
            + "n {}, [h, n1] in {[1, 2]} | b1 do \n end; print(t); print({1, 3, 5});\n", 5, 122);
        fault(1013, "var i, j, k, s, t, u, v, w, z, f, g, b1, x, y, a1;\nproc pr0(rd q0, rd q1, wr q2); var lv; lv := 5;k "
            + "* := [5,6,7,8](3); w(1 .. # w) := type((s * t) * ({2, 20, 9}));\n end;\nproc pr1(rd q0, q1, wr q2); va"
            + "r lv; lv := 6;if b1 then g(j - i) := pr0(v * 2, [for e in q2 : f], q2);\n else q2 := s; y := pr0([for"
            + " d in {1, 3, 5} : z], [6], b1);\n end;\n end;\ni := 3;\nj := 134217727;\nk := 123456789012345678901234567"
            + "890;\ns := {1, 3, 5};\nt := {1, 3, 5};\nu := [];\nv := [1, 3];\nw := \"hello world\";\nz := \"abc\";\nf := {[1,"
            + "1]};\ng := {[5,6],[6,5]};\nb1 := false;\nx := {[1, 2], [1, 3], [2, 5]};\ny := 3;\na1 := om;\nz := rev(rev("
            + "(z))); while (if b", 5, 617);
        fault(1014, "var", 2, 3);
        fault(1015, "var i, j, k, s, t, u, v, w, z, f, g, b1, x, y, a1;\nfunc fn0(p0) = fn0({[1, 2], [1, 3], [2, 5]});\npro"
            + "c pr0(q0, rd q1); var lv; lv := 6;z(1 .. # z) := pr0(v, g + q1); fail;\n end;\ni := 0;\nj := 4;\nk := 67"
            + "520;\ns := {};\nt := {};\nu := [];\nv := [1, 3];\nw := \"hello world\";\nz := \"abc\";\nf := {[5,6],[6,5]};\ng \u00f4"
            + "= {[1, 2], [1, 3], [2, 5]};\nb1 := false;\nx := 4294967296;\ny := {2, 20, 9};\na1 := newat;\nx := pr0(([1"
            + "..2])(1 .. 0), f); print(b1); [-, f{i div 3}] := u + (v * 0); print(if b1 then {} else {for e in t :"
            + " [3, om]} end, z, (om)); b1 := false; g(- i) := ([5,6,7,8](1)) - i; t := s; v(2) fromb w(1 .. 0); if"
            + " 28188 in u then \n  end end; w(1 .. # w) := (rev(str(b1))) + z; v(3) := code(\"q\"); w(1 .. 0) := ((re"
            + "v(z)) + (rev(z))) + ((rev(\"abc\")) + ((\"hello world\") * 3)); [u(1), u] := v; if (not b1) then \n else "
            + "\n end;\n", 1, 299);
        fault(1016, "var i, j, k, s, t, u, v, w, z, f, g, b1, x, y, a1;\nfunc fn0(p0, p1, p2) = rev(w);\nfunc fn1() = z;\ni "
            + ":= 5;\nj := 80241;\nk := 1;\ns := {};\nt := {1, 3, 5};\nu := [1..0];\nv := [1, 3];\nw := \"\";\nz := \"zz\";\nf :"
            + "=,[6,5]};\ng := {};\nbpr0 1 := false;\nx := \"hello world\";\ny := \"a\";\na1 := om;\nif ((z)) < ((\"abc\") + w)"
            + " then \n elseif true then print(i);\n end; v := if (s + ({})) subset t then [for c in u | b1 : a1] els"
            + "e [i + k] end; v(2) := i;\n", 2, 201);
        fault(1017, "var i, j, k, s, t, u, v, w, z, f, g, b1, x, y, a1;\nfunc fn0(p0, p1) = 2;\nproc pr0(q0, rd q1); var lv"
            + "; lv := 8;v(2) := - ((fn0(s, v))); succeed; print(g, b1);\n end;\ni := 7;\nj := 5;\nk := 4294967296;\ns :"
            + "= {1, 3, 5};\nt := {1, 3, 5};\nu := [1..2];\nv := [];\nw := \"hello world\";\nz := \"zz\";\nf := {};\ng := {[1,"
            + " 2], [1, 3], [2, 5]};\nb1 := false;\nx := {};\ny := [];\na1 := newat;\nprint(false, rev(type(i))); if (do"
            + "main(g)) subset ({}) then for i in [5, 2 .. i] | b1 do pr0(z, {k, 7 .. k}); if (exists d in {2, 20, "
            + "9} | b1) then x := pr0(char(k mod 256), z + z);\n end;\n end;\n else while (forall [s, n0] in f | b1) d"
            + "o j + := 1; i := i;\n end; pr0(type(a1), if b1 then \"a\" else z end);\n end; f{134217727} := pr0(w(1 .."
            + " 0), {[3, 1], [4, 123456789012345678901234567890]}); print(i); while if z <= w t", 2, 779);
        fault(1018, "var i, j, k, s, t, u, v, w, z, f, g, b1, x, y, a1;\nproc pr0(wr q0, rw q1, rw q2); var lv; lv := 0;wh"
            + "ile (range(f)) subset ({1, 3, 5}) do k + := 1; \n end; return;\n end;\ni := 57423;\nj := 89427;\nk := 6;\n"
            + "s := {1, 3, 5};\nt := {1, 3, 5};\nu := 3];\nv := [1, 3];\nw := \"\";\nz := \"a\";\nf := {[1, 2], [1, 3], [2, 5"
            + "]};\ng := {[1,1]};\nb1 := true;\nx := {1..4};\ny := \"zz\";\na1 := newat;\nz - := w(1 .. 0); for e in {1..4}"
            + ", d in ({for d in w | false : j}) do \n end; g{5} fromb j; v(# v + 1) + := (abs(j)) ** 3; v := [((\"ab"
            + "c\") * 2) * 2, i div 2, newat, j + (k - j)]; while (- 2) < (3 * j) do i + := 1; \n end; print(({1, 3, "
            + "5}) subset t); i := pr0(z, w, t); if ok then \n elseif (# z) = ({1..1}) then \n end; x := ([for e in t"
            + ", s in s : v]) + (([1..1])(1 .. 0)); f + := ({for c in [] : [c, b1]}) + (({[1, 2]}) + f); for e in {"
            + "} do u(1) * := - (min / (s + {4})); s := ({1..1}); [z(1 .. 0), f{5}, u] := [e, 5 .. 5];\n end; f{j - "
            + "4} := {(134217727) .. 2};\n", 2, 238);
        fault(1019, "var i, j, k, s, t, u, v, w, z, f, g, b1, x, y, a1;\ni := 4 := 6;\nk := 2;\ns := {};\nt := {};\nu := [];\nv"
            + " := [];\nw := \"\";\nz := \"a\";\nf := {[1, 2]};\ng := {[1,1]};\nb1 := true;\nx := [1..3];\ny := 2;\na1 := om;\ns"
            + "top; print(i); print(if b1 then \"hello world\" else z end); if ok then \n elseif b1 then u := (if w <="
            + " z then u(1 .. 0) else if true then v else u end end);\n end; u(2) := - 134217728; while j < 7 do j +"
            + " := 1; \n end; print([k, 9, j]); print({}); while k < 2 do k + := 1; if b1 then b1 := (forall s in do"
            + "main(g) | s in u);\n elseif b1 then print(s); u from x;\n else if (forall [i, n0] in g | b1) then \n el"
            + "seif (arb({1} + ({2, 20, 9}))) in (({}) * ({2, 20, 9})) then stop; print(if b1 then j else 56028 end"
            + ");\n end;\n end; w(1 .. 0) := ((z + z) + w);\n end; while (exists h in {} | b1) do k + := 1; \n end;\n", 2, 58);
        fault(1020, "var i, j, k, s, t, u, v, w, z, f, g, b1, x, y, a1;\nfunc fn0() = [i, 1 .. k];\nfunc fn1(p0, p1, p2) = "
            + "s;\nproc pr0(); var lv; lv := 9;return (z(1 .. 0)) > z;\n end;\ni := 9;\nj := 4;\nk := 5;\ns := {1..2};\nt "
            + ":= {};\nu := [4,4,4];\nv := [1..1];\nw := \"a\";\nz := \"abc\";\nf := {[1,1]};\ng := {[1, 2]};\nb1 := true;\nx :"
            + "= \"abc\";\ny := {[1, 2]};\na1 := newat;\nif ok then \n else assert b1;\n end; v(1 .. # v) := [for i in z :"
            + " i * 3]; w := rev(str({1..2})); if (forall e in [1..3] | b1 do i + := 1; fail;\n end; print(z);\n end;"
            + " for i in char((code(\"q\")) mod 256) | not false do \n end;\n", 2, 460);
        fault(1021, "var i, j, k, s, t, u, v, w, z, f, g, b1, x, y, a1;\nproc pr0(); var lv; lv := 6;j + := (if b1 then k "
            + "else 2 end) + (0 + j);\n end;\ni := 6;\nj := 3;\nk := 4;\ns := {1, 3, 5};\nt := {};\nu := [4,4,4];\nv := [1,"
            + " 3];\nw := \"a\";\nz := \"zz\";\nf := {[1, 2], [1, 3], [2, 5]};\ng := {[1, 2]};\nb1 := false;\nx := \"abc\";\ny :"
            + "= \"a\";\na1 := newat;\nfor h in {1, 3, 5} do f( newat 0) := [5,6,7,8](1);\n end; print(om); print([j .. "
            + "i]); print(a1);\n", 2, 351);
        fault(1022, "var i, j, k, s, t, u, v, w, z, f, g, b1, x, y, a1;\nproc pr0(wr q0, rw q1); var lv; lv := 1;if ((\"a\")"
            + ") in ((\"abc\") * 0) then z(1 .. 0) + := w;\n end; q0(3) := - j;\n end;\ni := 1;\nj := 7;\nk := 2147483648;"
            + "\ns := {};\nt := {1..5};\nu := [1, 3];\nv := [4,4,4];\nw := \"\";\nz := \"zz\";\nf := {[1,1]};\ng := {[5,6],[6,5"
            + "]};\nb1 := true;\nx := 123456789012345678901234567890;\ny := [4,4", 2, 362);
        fault(1023, "var i, j, k, s, t, u, v, w, z, f, g, b1, x, y, a1;\nfunc fn0() = v;\nproc pr0(q0); var lv; lv := 6;[-,"
            + " -, -] := [j .. j]; print(w + zf s subset ({2, 20, 9}) then fn0() else q0 end; return ([5,6,7,8](3))"
            + " - 4294967296;\n end;\nproc pr1(rd q0); var lv; lv := 3;for [e, n0] in g | e notin v do for c in {2, 2"
            + "0, 9}, e in s | w < (\"abc\") do \n end; continue; print(i);\n end; print(if b1 then \"a\" else z end); [u"
            + "(1), -, -] := v;\n end;\ni := 134217728;\nj := 0;\nk := 5;\ns := {};\nt := {};\nu := [4,4,4];\nv := [1, 3];\n"
            + "w := \"abc\";\nz := \"\";\nf := {[1, 2], [1, 3], [2, 5]};\ng := {[1,1]};\nb1 := true;\nx := [4,4,4];\ny := 0;\n"
            + "a1 := om;\nfor i in ((fn0()) + ([for e in s : b1])) do while ({}) subset ({2, 20, 9}) do j + := 1; \n "
            + "end; if (*/ (({1..2}) + {5})) > ([5,6,7,8](2)) then u(1 .. # u) := u;\n elseif k /= om then \n else \n "
            + "end; for e in s do \n end;\n end; f * := ({[1, 2], [1, 3], [2, 5]}); print({}); print((newat));\n", 5, 130);
        fault(1024, "var i, j, k, s, t, u, v, w, z, f, g, b1, x, y, a1;\nfunc fn0() = z;\nproc pr0(q0, rw q1); var lv; lv :"
            + "= 0;for e in s, m1 in t do \n end; while j < 5 do j + := 1; ", 2, 159);
        fault(1025, "var i, j, k, s, t, u, v, w, z, f, g, b1, x, y, a1;\nfunc fn0(p0, p1) = ([]);\nproc pr0(wr q0); var lv;"
            + " lv := 5;print(t subset s); x := ok; print(str(s));\n end;\nproc pr1(rw q0, rd q1, rw q2); var lv; lv "
            + ":= 4;q2 := q2;\n end;\ni := 2;\nj := 134217727;\nk := 7;\ns := {2, 20, 9};\nt := {1..4};\nu := [1..3];\nv :="
            + " [];\nw := \"hello world\";\nz :", 2, 327);
        fault(1026, "var i, j, k, s, t, u, v, w, z, f, g, b1, x, y, a1;\nfunc fn0(p0, p1, p2) = fn0([for e in t, [m1, n1] "
            + "in g : a1], p1 + p1, if b1 then s else t end);\nproc pr0(); var lv; lv := 8;lv := (code(\"q\")) * ((if "
            + "b1 then k else i end) ** 3); for e in [; y := pr0();\n end;\nproc pr1(); var lv; lv := 1;y * := s * ({"
            + "2, 20, 9}); print({for i in s : [lv, f]});\n end;\ni := 0;\nj := 5;\nk := 134217727;\ns := {1, 3, 5};\nt :"
            + "= {1..0};\nu := [4,4,4];\nv := [1, 3];\nw := \"zz\";\nz := \"abc\";\nf := {[5,6],[6,5]};\ng := {};\nb1 := true;"
            + "\nx := 5;\ny := \"zz\";\na1 := newat;\npr1(); if (type([4,4,4])) > w then f := f;\n end; fail; print(if (fo"
            + "rall i in {1, 3, 5} | b1) then om else om end, f, [for [e, n0] in f : []]);\n", 2, 239);
        fault(1027, "var i, j, k, s, t, u, v, w, z, f, g, b1, x, y, a1;\nfunc fn0(p0, p1) = not ((4294967296 - 1) in ({k ."
            + ". p0}));\nfunc fn1(p0, p1, p2) = z;\nproc pr0(rw q0, rw q1, q2); var lv; lv := 2;for h in ({for h in s"
            + " : i}) do \n end;\n end;\ni := 7;\nj := 0;\nk := 0;\ns := {1..5};\nt := {};\nu := [4,4,4];\nv := [1..4];\nw :="
            + " \"zz\";\nz := \"hello world\";\nf := {};\ng := {[1,1]};\nb1 := false;\nx := [1, 3];\ny := 2;\na1 := om;\nprint("
            + "if false then \"a\" else z end); while j < 7 do j + := 1; z(- j) := char(5 mod 256); g(i) := 134217727"
            + ";\n end; g := ({[1, 2]}) + ({[1,1]}); for d in ([for [s, n0] in f | b1 : j]) do if ok theint(u); if ("
            + "rev(\"\")) < w then \n end;\n end;\n end; v(2) := j; g := {[j, code(\"q\")], [j, (7 + j)]}; print((v(1 .. 0"
            + "))(1 .. 0)); z(1 .. # z) + := (char(2 mod 256)) + (z * 3); k - := (2147483648 - i) - (code(\"q\"));\n", 2, 585);
        fault(1028, "var i, j, k, s, t, u, v, w, z, f, g, b1, x, y, a1;\nproc pr0(); var lv; lv := 7;for s in ({2, 20, 9})"
            + " do lv * := k;\n end; fail;\n end;\nproc pr1(wr q0, q1); var lv; lv := 8;t from y;\n end;\ni := 3;\nj := 2"
            + ";\nk := 1;\ns := {1, 3, 5};\nt := {2, 20, 9};\nu := [4,4,4];\nv := [1..2];\nw := \"\";\nz := \"\";\nf := {};\ng :"
            + "= {[1, 2]};\nb1 := false;\nx := \"abc\";\ny := \"a\";\na1 := newat;\nif not (k < k) then \n end; w := char(5 m"
            + "od 256); print(w(1 .. 0)); g := {[1,1]}; if ((b1)) then g(j) := abs(1 - (i - j)); v + := u;\n else pr"
            + "int(i); x := ok;\n end; b1 := (exists s in rev(\"a\") | (exists [i, n0] in f | b1)); y := om; [z(1 .. #"
            + " z), x, s] := [for d in u | b1 : w end ];\n", 2, 635);
        fault(1029, "var i, j, k, s, t, u, v, w, z, f, g, b1, x, y, a1;\nfunc fn0(p0, p1) = [(forall h in t | b1), if b1 t"
            + "hen i else k mod (0-7) end, max / ((range({[1, 2], [1, 3], [2, 5]})) + {2691}), abs(arb({1} + ({2, 2"
            + "0, 9})))];\nfunc fn1(p0, p1, p2) = ({for h in p1 : [6, {}]}) + f;\nproc pr0(wr q0, q1); var lv; lv := "
            + "6;print((\"\") + z); for d in t | (exists [e, n0] in {[5,6],[6,5]} | b1) do for h in {1..3}, d in {2, "
            + "20, 9} do [q1, d] := fn0(d, w); print(arb({1} + t));\n end; lv from v(# v + 1);\n end;\n", 2, 485);
        fault(1030, "var i, j, k, s, t, u, v, w, z, f, g, b1, x, y, a1;\nfunc fn0(p0, p1)\u00b7= {[1, 2]};\nfunc fn1(p0) = t;\npr"
            + "oc pr0(rd q0, rw q1, rw q2); var lv; lv := 7;for e in {1..4} | (forall [i, n0] in f | b1) do \n end; "
            + "[g, b1] := ([for c in {2, 20, 9}, h in q2 | b1 : b1]) + ([j .. lv]); for i in s, s in t do t from y;"
            + " for [s, n0] in fn0(0, f) do b1 := q2 < (rev(str({})));\n end;\n end;\n end;\nproc pr1(); var lv", 1, 67);
        fault(1031, "var i, j, k, s, t, u, v, w, z, f, g, b1, x, y, a1;\nproc pr0(rw q0); var lv; lv := 7;w := \"hello worl"
            + "d\";\n end;\ni := 6;\nj := 3;\nk := 0;\ns := {2, 20, 9};\nt := {2, 20, 9};\nu := [1..5];\nv := [1..4];\nw := \""
            + "hello world\";\nz := \"a\";\nf := {[1,1]};\ng := {[1, 2]};\nb1 := true;\nx := {1..3};\ny :=d{1..0};\na1 := om;"
            + "\nfor c in (char(j mod 256))(1 .. 0) do c(1 .. 0) from b1; t + := {};\n end; while ((\"abc\") in (\"abc\")"
            + ") and b1 do k + := 1; g(arb({1} + ({1, 3, 5}))) := ((# s)) div 3;\n end; print({for c in {2, 20, 9} :"
            + " j}); u := pr0(y); while k < 3 do k + := 1; \n end; y := pr0(v);\n", 5, 282);
        fault(1032, "var i, j, k, s, t, u, v, w, z, f, g, b1, x, y, a1;\nfunc fn0(p0, p1, p2) = ({1, 3, 5});\nfunc fn1(p0, "
            + "p1, p2) = t;\nproc pr0(wr q0, wr q1); var lv; lv := 8;[z(1 .. 0), v, b1] := [i .. i]; for i in {} do "
            + "\n end; for e in [1, 3] do j := i; w := type(e >= (if b1 then i else 3 end));\n end; for e \u00c1n [lv .. k"
            + "] do g(arb({1} + s)) := 3 + (k + 134217727);\n end;\n end;\ni := 4;\nj := 8;\nk := 8;\ns := {};\nt := {2, 2"
            + "0, 9};\nu := [1..4];\nv := [4,4,4];\nw := \"\";\nz := \"\";\nf := {[1, 2]};\ng := {[1, 2], [1, 3], [2, 5]};\nb1"
            + " := true;\nx := 1;\ny := \"zz\";\na1 := newat;\nf{code(\"q\")} := {}; pr0(k, s); f{i} := {2, j .. j}; f(rand"
            + "m(100)) := (- 123456789012345678901234567890) + (abs(j + 0));\n", 1, 289);
        fault(1033, "var i, j, k, s, t, u, v, w, z, f, g, b1, x, y, a1;\nproc pr0(rd q0); var lv; lv := 3;if ok then if ok"
            + " then if if i in ([]) then true or b1 else z <= w end then i := - k;\n elseif s subset s then \n elsei"
            + "f b1: or ((forall e in v, m1 in z | b1)) then u(4) := k;\n elseif 1 in (domain(g)) then \n elseif b1 t"
            + "hen \n end; for [e, n0] in {[1,1]} do print(newat); g{j} := if (exists e in u | b1) then ({[3, j], [i"
            + ", lv]}){i} else {2, 20, 9} end; s := (t + t) + s;\n end;\n end;\n end; t + := s; b1 * := (str(f)) in (("
            + "z));\n end;\ni := 123456789012345678901234567890;\nj := 4;\nk := 4;\ns := {};\nt := {1..0};\nu := [1, 3];\nv"
            + " := [];\nw := \"abc\";\nz := \"\";\nf := {};\ng := {[1, 2], [1, 3], [2, 5]};\nb1 := false;\nx := {2, 20, 9};\ny"
            + " := 134217727;\na1 := newat;\nv := pr0(random({1..5})); v(1 .. # v) := ([for i in \"abc\" | false : k]) "
            + "+ ([]); print({[1,1]}); f(i * k) := pr0(- i); b1 * := (rev(z)) /= g;\n", 2, 204);
        fault(1034, "var i, j, k, s, u, v, w, z, f, g, b1, x, y, a1;\nproc pr0(rw q0, wr q1, wr q2); var lv; lv := 0;print"
            + "({for h in u : [i, 6]}, s); print(arb({1} + (({[5,6],[6,5]}){lv}))); q1 * := {for s in [4,4,4] : [2,"
            + " b1]};\n end;\nproc pr1(wr q0, rw q1, rd q2); var lv; lv := 1;y := false; for e in type(a1) do b1 := p"
            + "r0(i, z, x); print({}, ([4,4,4]) * 2);\n end;\n end;\ni := 2;\nj := 8;\nk := 8;\ns := {};\nt := {1, 3, 5};\n"
            + "u := [1, 3];\nv := [1, 3];\nw := \"a\";\nz := \"zz\";\nf := {[1, 2], [1, 3], [2, 5]};\ng := {[1,1]};\nb1 := tr"
            + "ue;\nx := [4,4,4];\ny := \"abc\";\na1 := newat;\nfor e in {}, s in {2, 20, 9} do e + := random(100);\n end;"
            + " for h in t | w in (\"hello world\") do for [e, n0] in {[5,6],[6,5]}, h in (s + ({1..0})) - ({1, 3, 5}"
            + ") do b1 + := i /= (h <= j); z(1 .. # z) := if false then (z + (\"zz\")) + (char(n0 mod 256)) else (if "
            + "b1 then z else z end) + (z + w) end;\n end; k := ok; print(type(s));\n end; v(2)(1) := {[5,6],[6,5]}; "
            + "b1 - := true; w(1 .. 0) := char(((abs(5)) * (k div 3)) mod 256); for e in (z * 0) * 3 | (exists h in"
            + " t | true) do g{+/ (s + {8})} := ({1, 3, 5}) - s;\n end;\n", 5, 384);
        fault(1035, "var i, j, k, s, t, u, v, w, z, f, g, b1, x, y, a1;\nfunc fn0() = [if b1 then k else k end .. 9];\nfunc"
            + " fn1(p0, p1) = j;\nproc pr0(q0); lv; lv := 9;if (- lv) in (rev(u)) then for [h, n0] in {[1,1]} do for"
            + " s in ({for h in t : lv}) | b1 = 2147483648 do print((forall e in {} | b1), (- k) ** 2, om); f := if"
            + " b1 then {} else {for c in {1, 3, 5}, [m1, n1] in {[1, 2], [1, 3], [2, 5]} : [h, f]} end;\n end; whil"
            + "e (char(h mod 256)) < w do h + := 1; print(i); print(g = ({}));\n end;\n end;\n end; b1 - := (exists [i"
            + ", n0] in g | true); w + := if b1 then (\"hello world\") + (\"hello world\") else type(lv) end; b1 := ok;"
            + "\n end;\nproc pr1(rd q0, rw q1, rw q2); var lv; lv := 3;print({for s in {1, 3, 5} : [s, a1]});\n end;\ni"
            + " := 7;\nj := 0;\nk := 5;\ns := {1, 3, 5};\nt := {1, 3, 5};\nu := [1, 3];\nv := [1..3];\nw := \"a\";\nz := \"abc"
            + "\";\nf := {[1, 2]};\ng := {[5,6],[6,5]};\nb1 := false;\nx := [1..4];\ny := 134217728;\na1 := newat;\nu(1 .. "
            + "# u) := (([]) + (fn0()))(1 .. 0); f + := {for [c, n0] in g : [c, i]}; f * := {[5,6],[6,5]};\n", 5, 132);
        fault(1036, "var i, j, k, s, t, u, v, w, z, f, g, b1, x, y, a1;\nfunc fn0(p0, p1) = pow(if b1 \u0085hen s else t end);\n"
            + "proc pr0(wr q0, q1); var lv; lv := 0;b1 := ({2, 20, 9}) = (- ((j))); f(4294967296) := 2; print((str("
            + "134217728)) * 0, false, 1); z - := \"\";\n end;\nproc pr1(); var lv; lv := 0;u(1) := 4;\n end;\ni := 9;\nj "
            + ":= 6;\nk := 5;\ns := {2, 20, 9};\nt := {1..2};\nu := [1..0];\nv := [4,4,4];\nw := \"zz\";\nz := \"hello world\""
            + ";\nf := {[5,6],[6,5]};\ng := {};\nb1 := false;\nx := {[1,1]};\ny := {1, 3, 5};\na1 := newat;\nprint((g)); i"
            + "f ok then \n end; [-, x] := v(1 .. 0); for d in v do \n end; print(g, [5,6,7,8](4), (z + w)(1 .. 0)); "
            + "k := pr0(b1, if b1 then f else f end); while k < 4 do k + := 1; [f, -, -] := (rev(u))(1 .. 0); print"
            + "(rev(w));\n end; p", 1, 80);
        fault(1037, "var i, j, k, s, t, u, v, w,v, w, z, f, g, b1, x, y, a1;\nfunc fn0(p0, p1, p2) = [1, 3];\ni := 0;\nj := "
            + "6;\nk := 98538;\ns := {1..5};\nt := {2, 20, 9};\nu := [4,4,4];\nv := [];\nw := \"zz\";\nz := \"\";\nf := {[1,1]}"
            + ";\ng := {};\nb1 := true;\nx := \"hello world\";\ny := 0;\na1 := om;\nz(1 .. # z) := (str(w in w)); s := {1.."
            + "1}; fail; b1 := ((forall i in [1, 3], [s, n1] in g | false)); print(i); z := z; g(j) - := code(\"q\");"
            + " print({[1,1]}, k, [1..2]);\n", 4, 27);
        fault(1038, "var i, j, k, s, t, u, v, w, z, f, g, b1, x, y, a1;\nfunc fn0(p0) = (fn0(k)) + ((fn0(7)));\nproc pr0(wr"
            + " q0, rd q1, rw q2); var lv; lv := 3;print(newat); w(1 .. # w) := rev(rev(w(1 .. 0)));\n end;\nproc pr1"
            + "(wr q0, rw q1); var lv; lv := 8;if ok then g - := {[1, 2], [1, 3], [2, 5]};\n end; print(i); t := t; "
            + "if (exists e in s | b1) then \n end;\n end;\ni := 134217727;\nj := 9;\nk := 9;\ns := {1, 3, 5};\nt := {};\nu"
            + " := [1, 3\u00b7;\nv := [4,4,4];\nw := \"a\";\nz := \"hello world\";\nf := {[1, 2], [1, 3], [2, 5]};\ng := {[1, 2],"
            + " [1, 3], [2, 5]};\nb1 := true;\nx := {2, 20, 9};\ny := {1..6};\na1 := om;\nu fromb v(1 .. # v); t - := {}"
            + "; z(1 .. # z) := rev(rev(w + w)); while k < 7 do k + := 1; \n end; pr1(u(3), u); v(1 .. # v) := ([k ."
            + ". 1]) * 2; z := \"\"; f(134217728) + := (j ** 40) ** 40; i := ok; s := pr0(w(1 .. 0), {[1, 2], [1, 3],"
            + " [2, 5]}, z(1 .. 0)); b1 fromb u(4);\n", 1, 409);
        fault(1039, "var i, j, k, s, t, u, v, w, z, f, g, b1, x, y, a1;\nfunc fn0(p0) = 3 div 3;\nproc pr0(wr q0, rw q1, wr"
            + " q2); var lv; lv := 2;print([], om, (rev(v)) /= (3 in t));\n end;\ni := 4;\nj := 134217727;\nk := 7;\ns :"
            + "= {};\nt := {};\nu := [4,4,4];\nv := [];\nw := \"abc\";\nz := \"abc\";\nf := {[1, 2], [1, 3], [2, 5]};\ng := {["
            + "5,6],[6,5]};\nb1 := false;\nx := {[1\u00fa 2]};\ny := {1..1};\na1 := newat;\nf := {[1, 2], [1, 3], [2, 5]}; as"
            + "sert (s subset ({})); f{arb({1} + t)} + := {1..5};\n", 1, 334);
        fault(1040, "var i, j, k, s, t, u, v, w, z, f, g, b1, x, y, a1;\nfunc ffn0n0() = fn0();\nfunc fn1(p0, p1, p2) = w i"
            + "n (((\"\") + w) * 0);\nproc pr0(q0); var lv; lv := 1;print(z); return (w < z); z from s; [b1, -] := [j "
            + ".. 8];\n end;\nproc pr1(q0, wr q1, wr q2); var lv; lv := 1;z - := str((exists d in q0 | b1)); b1 := ok"
            + "; v(2) := abs(abs(2));\n end;\ni := 1;\nj := 9;\nk := 8;\ns := {1, 3, 5};\nt := {1..4};\nu := [1, 3];\nv := "
            + "[1, 3];\nw := \"\";\nz := \"zz\";\nf := {[5,6],[6,5]};\ng := {};\nb1 := true;\nx := {[1,1]};\ny := \"a\";\na1 := o"
            + "m;\nu := pr1({i}, b1, v(1 .. # v)); print(a1); i := +/ (({1, 3, 5}) + {1}); while i < 4 do i + := 1; "
            + "[-, s] := [for h in t, d in t : v]; t := t;\n end; b1 := b1;\n", 5, 67);
        fault(1041, "var i, j, k, s, t, u, v, w, z, f, g, b1, x, y, a1;\nfunc fn0(p0, p1) = {[k + 4294967296, [5,6,7,8](4)"
            + "], [code(\"q\"), [5,6,7,8](2)]};\nproc pr0(rw q0); var lv; lv := 0;print([8, k .. 7]);\n end;\nproc pr1(w"
            + "r q0, q1, rd q2); var lv; lv := 4;j * := # z; t - := {}; print([for c in w, m1 in {} : om], om);\n en"
            + "d;\ni := 7;\nj := 134217728;\nk := 134217727;\ns := {1, 3, 5};\nt := {2, 20, 9};\nu := [4,4,4];\nv := [];\nw"
            + " := \"\";\nz := \"a\";\nf := {[5,6],[6,5]};\ng := {[1,1]};\nb1 := false;\nx := {[1,1]};\ny := \"a\";\na1 := om;\nu"
            + " := [abs(i) .. k mod 2]; b1 := ok; for s in {i .. 134217728} | not b1 do w(1 .. 0) + := z; assert b1"
            + ";\n~end; print(i > j); print((if false then t else t end) + ({1, 3, 5}), if g /= b1 then 9 else 8 end"
            + ", i); if if t subset s then w < z else true end then \n else if (exists [s, n0] in f | true) then \n e"
            + "lseif not (if b1 then true else b1 end) then k := ok; while i < 7 do i + := 1; print(a1); for h in {"
            + "1, 3, 5} | j <= j do \n end;\n end;\n end; [v, y, -] := (([4,4,4])) + ([1..6]);\n end; g := fn0({k}, {fo"
            + "r e in s | b1 : e});\n", 1, 602);
        fault(1042, "var i, j, k, s, t, u, v, w, z, f, g, b1, x, y, a1;\nproc pr0(); var lv; lv := 1;for d in z(1 .. 0) do"
            + " [-] := []; g(j div 12345678901) from w; for e in (t) | lv /= b1 do b1 := (exists s in {1, 3, 5} | f"
            + "alse and false);\n end;\n end;\n end;\ni := 3;\nj := 3;\nk := 2;\ns := {2, 20, 9};\nt := {1..0};\nu := [];\nv "
            + ":= [];\nw := \"zz\";\nz := \"abc\";\nf := {[1,1]};\ng := {};\nb1 := true;\nx := 2;\ny := \"abc\";\na1 := om;\nf(k) "
            + ":= pr0(); v + := u; b1 := ok; succeed; pri 134217728; fail; u := [- 5]; j - := j;\n", 5, 439);
        fault(1043, "var i, j, k, s, t, u, v, w, z, f, g, b1, x, y, a1;\ni := 69313;\nj := 2147483648;\nk := 4;\ns := {1..1};"
            + "\nt := {1, 3, 5};\nu := [1..5];\nv := [4,4,4];\nw := \"hello world\";\nz := \"abc\";\nf := {[1, 2], [1, 3], [2"
            + ", 5]};\ng := {};\nb1 := true;\nx := [];\ny := {1, 3, 5};\na1 := newat;\npnt(i); if ok then u := [4,4,4]; f"
            + "(5) := j * ((+/ (t + {8})) * 7);\n else if (({1, 3, 5}) - ({})) subset (if b1 then {2, 20, 9} else t "
            + "end) then z(1 .. # z) := z + (\"hello world\"); b1 := false;\n else u(1 .. # u) := [];\n end;\n end; prin"
            + "t(om, arb({1} + ({i, i .. j})), [4,4,4]); if ok then v := ([for e in {}, s in t : [4,4,4]]) + ([for "
            + "d in s : t]);\n else print({for i in u : i});\n end;\n", 5, 266);
        fault(1044, "var i, j, k, s, t, u, v, w, z, f, g, b1, x, y, a1;\nproc pr0(rd q0, rd q1, wr q2); var lv; lv := 6;fo"
            + "r i in s do \n end; print(g); print(6);\n end;\nproc pr1(rw q0, rw q1); var lv; lv := 0;b1 from u(3); f"
            + "or c in {2, 20, 9}, [m1, n1] in (g + ({for h in {}, m1 in w : [h, b1]})) | (exists [d, n0] in f | b1"
            + ") do print(u + v); i + := arb({\u009e} + (({1..2}) - t)); while not (u = v) do k + := 1; \n end;\n end;\n en"
            + "d;\ni := 2147483648;\nj := 7;\nk := 3;\ns := {1..3};\nt := {};\nu := [1..2];\nv := [1..2];\nw := \"abc\";\nz :="
            + " \"hello world\";\nf := {[1, 2]};\ng := {[5,6],[6,5]};\nb1 := true;\nx := [1..1];\ny := 0;\na1 := newat;\npri"
            + "nt({for e in u : [j, v]}); stop; k := pr0((t), [5,6,7,8](2), g);\n", 1, 331);
        fault(1045, "var i, j, k, s, t, u, v, w, z, f, g, b1, x, y, a1;\nproc pr0(q0); var lv; lv := 7;if ok then pr0(q0 +"
            + " z);\n else for e in ({for i in s : lv}) do assert (forall d in w | false); print(om, (e mod (0-7)) *"
            + " ((3)), newat);\n end; q0(1 .. # q0) := (rev(z)) * 3;\n end; print([i, k .. lv]);\n end;\nproc pr1(q0, r"
            + "d q1, rd q2); var lv; lv := 1;v(3) := - ((*/ (({2, 20, 9}) + {6})) + ([5,6,7,8](4)));\n end;\ni := 6;\n"
            + "j := 0;\nk := 1;\ns := {1, 3, 5};\nt := {1..4};\nu := [1, 3];\nv := [1, 3];\nw := \"\";\nzorld\";\nf := {[1,1]}"
            + ";\ng := {[5,6],[6,5]};\nb1 := false;\nx := 9;\ny := 5;\na1 := newat;\nb1 + := if b1 or b1 then not b1 else"
            + " ({}) subset s end; for d in domain(g) do y := {for i in rev(v) : i}; print(({for s in z : [j, g]}) "
            + "+ ((f)), om); y := arb({1} + s);\n end; x := rev(u); fail;\n", 1, 485);
        fault(1046, "var i, j, k, s, t, u, v, w, z, f, g, b1, x, y, a1;\nfunc fn0(p0) = [4,4,4];\nfunc fn1() = i;\nproc pr0("
            + "); var lv; lv := 2;if ok then z := ((type({2, 20, 9})) + (w * 3)) + w;\n end; if z in (rev(w)) then k"
            + " := ok; b1 := false;\n elseif ((i)) < (5 ** 2) then \n else for i in ({for s in {1, 3, 5} : j}), s in "
            + "{} do if (({1, 3, 5}) + s) subset (({}){lv}) then print(f + ({[1, 2]}));\n elseif 0 = (u = g) then \n "
            + "end;\n end;\n end; return;\n end;\ni := 0;\nj := 4294967296;\nk := 9;\ns := {1..5};\nt := {1, 3, 5};\nu := [1"
            + ", 3];\nv := [];\nw := \"hello world\";\nz := \"a\";\nf := {[5,6],[6,5]};\ng := {[1, 2]};\nb1 := false;\nx := {["
            + "1,1]};\ny := 9;\na1 := om;\nz(1 .. 0) := ((z * 3) * 3)(1 .. 0); f + := {}; f := ({for i in t : [k, k]})"
            + " + (({[5,6],[6,5]}));\u00b3pr0(); assert (t + ({1..0})) subset (s + ({1..4})); succeed;\n", 1, 721);
        fault(1047, "var i, j, k, s, t, u, v, w, z, f, g, b1, x, y, a1;\nproc pr0(rd q0, q1, wr q2); var lv; lv := 0;s := "
            + "{1, 3, 5}; while b1 do i + := 1; [-, i] := [for h in q2 : w];\n end; g(4021) := j; b1 := b1;\n end;\npr"
            + "oc pr1(rd q0); var lv; lv := 3;for [d, n0] in {}, m1 in ({1, 3, 5}) * (domain({[1,1]})) | j >= k do "
            + "[-, -] := [1..1];\n end; b1 := ok; print(k); f := {[1, 2]};\n end;\ni := 134217727;\nj := 4;\nk := 429496"
            + "7296;\ns := {1, 3, 5};\nt := {1..5};\nu := [];\nv := [4,4,4];\nw := \"hello world\";\nz := \"a\";\nf := {[1,1]}"
            + ";\ng := {[1, 2], [1, 3], [2, 5]};\nb1 := true;\nx := {2, 20, 9};\ny := {1, 3, 5};\na1 := om;\ny := a1; pri"
            + "nt((exists d in {2, 20, 9} | true)); f(if b1 then i else 9 end) := 3; if ok then print(b1); print(a1"
            + ");\n else fail;\n hen print(b1); print(a1);\n else fail;\n end; y := w;\n", 5, 716);
        fault(1048, "var i, j, k, s, t, u, v, w, z, f, g, b1, x, y, a1;\nfunc fn0() = [5,6,7,8](4);\ni := 2147483648;\nj := "
            + "134217727;\nk := 1;\ns := {2, 20, 9};\nt := {1..2};\nu := [1, 3];\nv := [1..4];\nw := \"hello world\";\nz := "
            + "\"hello world\";\nf := {[1, 2]};\ng := {[1, 2]};\nb1 := true;\nx := 134217727;\ny := {};\na1 := newat;\nif z "
            + "> (rev(z)) then print(t + t);\n end; [g{j}, -] := [j .. k]; prin\u008d({[1, 2]});\n", 1, 363);
        fault(1049, "var i, j, k, s, t, u, v, w, z, f, g, b1, x, y, a1;\nfunc fn0(p0) = b1;\nfunc fn1(p0, p1, p2) = fn1(u *"
            + " 0, {[1, 2]}, p2);\nproc pr0(rw q0); var lv; lv := 0;b1 := not ((random(6)) > (if false then k else l"
            + "v end)); if false then for s in fn1(q0, g, u) do for h in q0 do i + := [5,6,7,8](2);\n end;\n end;\n el"
            + "seif (forall d in t | b1) then if ok then g := {for [s, n0] in (f) : [k mod 2, newat]};\n end;\n elsei"
            + "f i notin (rev([1..4])) then\u0090lv fromb w; w(1 .. # w) := ((w(1 .. 0)) + (rev(w))) * 0;\n end; s := {*/"
            + " (({for h in t : j}) + {1}), (# ({})) div 3};\n end;\ni := 2;\nj := 2;\nk := 6;\ns := {2, 20, 9};\nt := {1"
            + "..2};\nu := [1..2];\nv := [1..4];\nw := \"zz\";\nz := \"hello world\";\nf := {};\ng := {};\nb1 := true;\nx := [1"
            + "..6];\ny := [];\na1 := om;\nfail; b1 + := (exists e in t | b1); g(i - k) * := - 7; v(3) := pr0(u(3)); ["
            + "y, s] := [1, 3]; print({for d in t | false : 5}); print(char(0 mod 256)); print(b1);\n", 1, 428);
        fault(1050, "var i, j, k, s, t, u, v, w, z, f, g, b1, x, y, a1;\ni := 2;\nj := 4294967296;\nk := 0;\ns := {2, 20, 9};"
            + "\nt := {2, 20, 9};\nu := [4,4,4];\nv := [1, 3];\nw := \"a\";\nz := \"a\";\nf := {[5,6],[6,5]};\ng := {[5,6],[6,"
            + "5]};\nb1 := true;\nx := 3;\ny := 0;\na1 := om;\nx * := char((arb({1} + t)) mod 256); print(k * j); print("
            + "om); print(i); print({[j, i], [i, k]}); fo\u00bb i in v, d in rev(rev(z)) do print(rev(\"zz\"));\n end;\n", 1, 342);
        fault(1051, "var i, j, k, s, t, u, v, w, z, f, g, b1, x, y, a1;\nfunc fn0() = 6;\nproc pr0(wr q0, rd q1, wr q2); va"
            + "r lv; lv := 5;for d in v do \n end; for c in {code(\"q\"), 8} do print(u); u := if ((\"a\") >= z) then if"
            + " z in z then u else u end else v end; if (char(kv(z)) then if ok then print(i); succeed;\n elseif 4 /"
            + "= (newat) then print(om);\n else q2 := {2, 20, 9};\n end;\n else \n end;\n end;\n end;\ni := 0;\nj := 8;\nk :"
            + "= 8;\ns := {1, 3, 5};\nt := {1, 3, 5};\nu := [4,4,4];\nv := [1..2];\nw := \"a\";\nz := \"hello world\";\nf := {"
            + "[1,1]};\ng := {[5,6],[6,5]};\nb1 := true;\nx := \"abc\";\ny := {1..2};\na1 := om;\npr0(f(1)(2), g, w(1 .. # "
            + "w)); while k < 2 do k + := 1; [-, f, b1] := (([])(1 .. 0)) + ([1..5]);\n end; b1 := j < (fn0()); if f"
            + "alse then \n end; b1 := b1; for e in (rev(\"\")) * 2 do \n end;\n", 5, 247);
        fault(1052, "var i, j, k, s, t, u, v, w, z, f, g, b1, x, y, a1;\nproc pr0(rw q0\u00b1 wr q1, rw q2); var lv; lv := 0;if"
            + " ok then for s in ({for s in s : k}) do if false then \n end; print(type(s)); w := rev(char((i * lv) "
            + "mod 256));\n end;\n else if ok then for h in ([for [d, n0] in g, [h, n1] in g | false : f]) do print({"
            + "1, 3, 5});\n end;\n elseif w >= ((\"abc\") + (\"zz\")) then if t subset (s + s) then \n else \n end; for c i"
            + "n ({6, 1 .. 0}) * ({lv .. lv}), m1 in (({for s in w, i in {2, 20, 9} : [c, i]}){j}) do print({for e "
            + "in u, [s, n1] in {[5,6],[6,5]} | true : lv}); print((z)); print(b1);\n end;\n end;\n end;\n end;\ni := 4;"
            + "\nj := 9;\nk := 9;\ns := {2, 20, 9};\nt := {};\nu := [];\nv := [1..0];\nw := \"zz\";\nz := \"hello world\";\nf :="
            + " {[5,6],[6,5]};\ng := {[5,6],[6,5]};\nb1 := true;\nx := {};\ny := 7;\na1 := om;\nwhile b1 do k + := 1; v(4"
            + ") := abs(123456789012345678901234567890); f{arb({1} + s)} := {for e in {j, k .. k} : min / (s + {2})"
            + "};\n end; t := {1..5}; print(([4,4,4]) * 3); u(1 .. # u) := pr0(w(69837 * 134217727), f(k), w(1 .. # "
            + "w)); print(i); g - := f; g + := f; g(i) := arb({1} + s);\n", 1, 65);
        fault(1053, "var i, j, k, s, t, u, v, w, z, f, g, b1, x, y, a1;\nfunc fn0(p0, p1) = (z(1 .. 0)) * 2;\nproc pr0(rd q"
            + "0, q1); var lv; lv := 1;z(1 .. # z) :=. (revpr0((z + z)) + (fn0(2, []));\n end;\ni := 8;\nj := 0;\nk := "
            + "8;\ns := {2, 20, 9};\nt := {2, 20, 9};\nu := [1, 3];\nv := [1..5];\nw := \"abc\";\nz := \"abc\";\nf := {[1, 2],"
            + " [1, 3], [2, 5]};\ng := {[1, 2]};\nb1 := false;\nx := {[1, 2]};\ny := {[1,1]};\na1 := newat;\nprint({1, 3,"
            + " 5}); [v(2)(1)] := u; u + := rev([for s in t, d in s : {[5,6],[6,5]}]); b1 + := ([for [e, n0] in {} "
            + "| true : g]) /= (k notin ([1..6]));\n", 1, 138);
        fault(1054, "var i, j, k, s, t, u, v, w, z, f, g, b1, x, y, a1;\nfunc fn0(p0, p1) = (fn0(s, {})) div 2;\nfunc fn1(p"
            + "0, p1) = abs(((d)) + i);\ni := 2147483648;\nj := 5;\nk := 8;\ns := {2, 20, 9};\nt := {};\nu := [];\nv := [1"
            + ", 3];\nw := \"hello world\";\nz := \"a\";\nf := {[5,6],[6,5]};\ng := {[1, 2], [1, 3], [2, 5]};\nb1 := false;\n"
            + "x := {[5,6],[6,5]};\ny := [1, 3];\na1 := newat;\nprint(abs(k)); for h in {i .. i} do \n end; for e in {1"
            + "..3}, d in [i, 0 .. 1] | not b1 do \n end; if (rev(z)) /= ([for c in t : f]) then w(1 .. 0) := \"zz\";\n"
            + " else s := s;\n end; z := rev(w); u(1 .. # u) + := v; print(v); b1 := ok; z(i) := type(rev([k, i, i, "
            + "134217728])); print(rev(w));\n", 5, 115);
        fault(1055, "var i, j, k, s, t, u, v, w, z, f, g, b1, x, y, a1;\nfunc fn0(p0) = w;\nproc pr0(rw q0, q1, rd q2); vlv"
            + "; lv := 5;while k < 8 do k + := 1; b1 := b1; print(t + t);\n end; g := {}; s := (if ({}) = a1 then {["
            + "1, 2], [1, 3], [2, 5]} else {for d in {2, 20, 9} : [q2, a1]} end){k};\n end;\ni := 6;\nj := 2;\nk := 1;\n"
            + "s := {1..4};\nt := {};\nu := [4,4,4];\nv := [1, 3];\nw := \"hello world\";\nz := \"zz\";\nf := {};\ng := {[1, 2"
            + "]};\nb1 := true;\nx := 4;\ny := 2;\na1 := om;\nprint(i); print(i); for s in {1, 3, 5} do print(i);\n end;\n", 5, 97);
        fault(1056, "var i, j, k, s, t, u, v, w, z, f, g, b1, x, y, a1;\nfunc fn0(p0) = [5,6,7,8](3);\nfunc fn1(p0) = {for "
            + "d in t : 2};\nproc pr0(q0, q1, rw q2); var lv; lv := 7;if b1 then z(1 .. # z) := \"a\"; w := str((([1, "
            + "3]) + u) + ([i .. k]));\n elseif b1 then v(3) from f(1)(1); u from lv;\n end;\n end;\nproc pr1(rw q0, rd"
            + " q1); var lv; lv := 8;s := s; for e in t do w(1 .. 0) := pr0(z(1 .. 0), t, u); for [e, n0] in {} | b"
            + "1 do print(if b1 then newat else newat end); x := {1, 3, 5};\n end;\n end; q0{j} := {2, 20, 9};\n end;\n"
            + "i := 20855;\nj := 1;\nk := 5;\ns := {2, 20, 9};\nt := {1, 3, 5};\nu := [4,4,4];\nv := [];\nw := \"abc\";\nz :="
            + " \"zz\";\nf := {[5,6],[6,5]};\ng := {};\nb1 := false;\nx := [1, 3];\ny := {[5,6],[6,5]};\u00e9a1 := newat;\nb1 + "
            + ":= 1 notin ({j, 123456789012345678901234567890}); if ok then i := 134217728 ** 10;\n end; b1 := (k in"
            + " (rev(v))) and (({}) subset ({1..6})); i := min / (s + {0}); for c in (rev(w)) + (type(z)) do print("
            + "i); continue;\n end; v(1 .. # v) := v + ([1..3]); b1 := ((if true then z else w end)) in (rev((\"zz\")("
            + "1 .. 0))); t + := fn1(k);\n", 1, 681);
        fault(1057, "var i, j, k, s, t, u, v, w, z, f, g, b1, x, y, a1;\nfunc n0(p0) = true;\ni := 4;\nj := 134217727;\nk := "
            + "2;\ns := {};\nt := {};\nu := [1..2];\nv := [1, 3];\nw := \"\";\nz := \"hello world\";\nf := {[1, 2]};\ng := {[1,"
            + "1]};\nb1 := false;\nx := {};\ny := \"abc\";\na1 := om;\nfor s in ([for [d, n0] in f | b1 : s]) do \n end; v("
            + "4) := random({1..5}); print(i); x := [for c in {1, 3, 5} | k >= c : rev(z)]; if ok then while i < 5 "
            + "do i + := 1; z(1 .. 0) - := char((arb({1} + s)) mod 256);\n end;\n else v - := []; b1 := fn0(char(4 mo"
            + "d 256));\n end; w(1 .. # w) := type({2, 20, 9}); print({i + 123456789012345678901234567890}, if b1 th"
            + "en om else om end); u := v; fail;\n", 5, 487);
        fault(1058, "var i, j, k, s, t, u, v, w, z, f, g, b1, x, y, a1;\nproc pr0(); var lv; lv := 1;print(k, random(6)); "
            + "g := pr0(); x := {[1, 2], [1, 3], [2, 5]};\n end;\nproc pr1(rw q0, rd q1, rw q2); var lv; lv := 9;whil"
            + "e i < 5 do i + := 1; \n end; print({[k, - k], [code(\"q\"), (k)]}, newat); s * := domain((g)); while (e"
            + "xists d in t, s in t | b1) do k + := 1; z(1 .. # z) := ((str(b1)) + w) + (str(2147483648)); print(({"
            + "1..0}) = ({[1, 2], [1, 3], [2, 5]}));\n end;\n end;\ni := 1;\nj := 2147483648;\nk := 42\u00f04967296;\ns := {1,"
            + " 3, 5};\nt := {1..2};\nu := [1, 3];\nv := [1, 3];\nw := \"hello world\";\nz := \"hello world\";\nf := {};\ng :="
            + " {[1,1]};\nb1 := false;\nx := \"\";\ny := \"\";\na1 := om;\nb1 := not ((134217728 in t) and ((forall c in s, "
            + "i in s | false))); [b1] := rev(if b1 then v else v end); [b1, v(# v + 1)] := ([k .. i]); s + := ({1,"
            + " 3, 5}) * ({1..1});\n", 1, 482);
        fault(1059, "var i, j, k, s, t, u, v, w, z, f, g, b1, x, y, a1;\nproc pr0(); var lv; lv := 8;v * := u; while j < 2"
            + " do j + := 1; \n end; fail;\n end;\ni := 4;\nj := 2;\nk := 134217727;\ns := {2, 20, 9};\nt := {};\nu := [1.."
            + "2];\nv := [4,4,4];\nw := \"\";\nz := \"zz\";\nf := {};\ng := {[1,1]};\nb1 := true;\nx := {[1,1]};\ny := \"abc\";\na"
            + "1 := newat;\npr0(); f{k} := pr0(); v(1) * := i; u := [for h in domain(g), s in s : ({1..0}) - s]; s :"
            + "= {1, 3, 5}; k - := 9; pr\u00ee(); g := {[5,6],[6,5]}; succeed; b1 := b1; pr0(); print(j in v); if (j * j"
            + ") >= (abs(j)) then \n elseif b1 or ((true)) then pr0(); b1 := ok;\n elseif b1 then b1 := (({j .. k}) s"
            + "ubset s) or ((forall [s, n0] in f | false)); u(2) := i;\n else y := z; w(1 .. # w) := rev((rev(z)) + "
            + "(rev(z)));\n end;\n", 1, 425);
    }
}

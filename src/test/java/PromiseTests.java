/** Each promise of the document, with ordinary inputs, its edges and wrong inputs. */
public final class PromiseTests extends Checks {
    // ------------------------------------------------ promises

    private static void newObject() {
        x = new House();
        for (int what = 0; what <= 4; what++) {
            due(1, "count of a new object", x.count(what), 0);
        }
        for (int what = 0; what <= 3; what++) {
            due(1, "shape of a new object", x.shape(what), 0);
        }
        due(1, "fault of a new object", x.fault(), 0);
        due(1, "order of a new object", x.order(), 0);
        throwsDue(1, "shown", "IndexOutOfBoundsException", () -> x.shown(0));
        throwsDue(1, "out", "IndexOutOfBoundsException", () -> x.out(0));
        throwsDue(1, "state", "IllegalStateException", () -> x.state(0));
        throwsDue(1, "round", "IllegalStateException", () -> x.round());
        throwsDue(1, "view", "IllegalStateException", () -> x.view());
    }

    private static void feeding() {
        x = new House();
        due(2, "first feed", x.feed(0x31323334, 0x35363738, 0x39303132, 0x33343536, 0x37383930), 20);
        due(2, "second feed", x.feed(0x2b312020, 0x20202020, 0x20202020, 0x20202020, 0x20202020), 40);
        x.end(22);
        House tape = x;
        fresh("var a;");
        x.start(1);
        x.feed(0x31323334, 0x35363738, 0x39303132, 0x33343536, 0x37383930);
        x.work();
        due(2, "bytes, the highest first", shown(), "12345678901234567890");
        x = tape;
        due(2, "one behind the other", x.feed(0, 0, 0, 0, 0), 42);
        x.end(0);
        due(2, "all zeros", x.feed(0, 0, 0, 0, 0) + " " + x.program() + " " + x.fault(), "20 -1 1");
    }

    private static void ending() {
        x = new House();
        throwsDue(3, "end(1) of none", "IllegalArgumentException", () -> { x.end(1); return 0; });
        throwsDue(3, "end(0) of none", "0", () -> { x.end(0); return 0; });
        feed("abc");
        throwsDue(3, "end(-1)", "IllegalArgumentException", () -> { x.end(-1); return 0; });
        throwsDue(3, "end(4)", "IllegalArgumentException", () -> { x.end(4); return 0; });
        due(3, "nothing changed", x.count(0), 3);
        x.end(3);
        x.end(2);
        due(3, "two are kept", x.count(0), 2);
        x.end(0);
        due(3, "none is kept", x.count(0), 0);
    }

    private static void programs() {
        x = new House();
        due(4, "an empty program", x.program(), 0);
        due(4, "statements within others and in procs",
            program("var a; proc p(); if true then a := 1; else while false do a := 2; end; end; end; p(); for i in {} do quit; end;"), 7);
        due(4, "the tape is empty then", x.count(0), 0);
        x.start(1);
        feed("a");
        x.view();
        due(4, "a fault", program("a := ;"), -1);
        due(4, "its code", x.fault(), 5);
        due(4, "the tape is empty with a fault, too", x.count(0), 0);
        due(4, "what was before stays", x.count(1) + " " + x.count(4) + " " + x.step(1), "7 1 0");
        work("1 + 1");
        due(4, "another program", program("var b;"), 0);
        throwsDue(4, "no run any more", "IllegalStateException", () -> x.state(0));
        due(4, "no views", x.count(4), 0);
        due(4, "what is shown stays", shown(), "2");
        due(4, "notes and blanks", program("-- a note\nvar a;\t\r-- b"), 0);
    }

    private static void faults() {
        x = new House();
        program("$");
        due(5, "fault of program()", x.fault(), 1);
        program("");
        due(5, "none", x.fault(), 0);
        faulty("var a; a := 1 ! 2;", 1, 14);
        faulty("var a; a := 1 . 2;", 1, 14);
        faulty("var a; a := 1 ... 2;", 2, 14);
        faulty("var abcdefghijklmnopq;", 1, 4);
        faulty("var a; a := \"abc;", 1, 12);
        faulty("var a; a := \"ab\nc\";", 1, 12);
        faulty("var a; a := \"" + repeated("x", 101) + "\";", 1, 12);
        faulty("var a; a := " + repeated("1", 61) + ";", 1, 12);
        faulty("var \u00e9;", 1, 4);
        faulty("var a a", 2, 6);
        faulty("var a; a := 1", 2, 13);
        faulty("var a; a := 1  ", 2, 15);
        faulty("a", 5, 0);
        faulty("var if;", 2, 4);
        faulty("var a; a := 1; var b;", 2, 15);
        faulty("var a; a := 1 = 2 = 3;", 2, 18);
        faulty("var a; a := 1 + not true;", 2, 16);
        faulty("var a; a(1) := ok;", 2, 15);
        faulty("var a; a := ok + 1;", 2, 15);
        faulty("var a; [] := a;", 2, 8);
        faulty("var a; a := {1, 2, 3 .. 4};", 2, 21);
        faulty("var a; a := max 1;", 2, 16);
        faulty("var a; a := if true then 1 end;", 2, 27);
        faulty("var a; a + 1;", 2, 11);
        faulty("func f() = newat;", 2, 11);
        faulty("func f() = random(1);", 2, 11);
        faulty("var a; a := " + repeated("(", 21) + "1", 3, 32);
        accepted("var a; a := " + repeated("(", 20) + "1" + repeated(")", 20) + ";", 1);
        faulty("var a; a := " + repeated("- ", 21) + "1;", 3, 52);
        faulty("var a; a := " + repeated("not ", 21) + "true;", 3, 92);
        faulty("var a; a := 1" + repeated(" ** 1", 21) + ";", 3, 114);
        faulty(repeated("if true then ", 21), 3, 260);
        faulty(repeated("if true then ", 20) + "for", 3, 260);
        faulty(repeated("if true then ", 20) + "print(1);", 3, 265);
        faulty("var a, a;", 4, 7);
        faulty("var a; func a() = 1;", 4, 12);
        faulty("proc p(x, x); end;", 4, 10);
        faulty("proc p(x); var x; end;", 4, 15);
        accepted("var a; proc p(a); var p; end;", 0);
        faulty("var a; a := {for i in a, i in a : i};", 4, 25);
        faulty("var a; a := {for [i, i] in a : i};", 4, 21);
        accepted("var i; i := {for i in i : i};", 1);
        faulty("var a; a := b;", 5, 12);
        faulty("var a; a := b $", 1, 14);
        faulty("var a; a := {for i in {1} : i} + {i};", 5, 34);
        faulty("var a; a := {for i in i : i};", 5, 22);
        faulty("var a; func f() = 1; a := f;", 5, 26);
        faulty("var a; func f() = 1; f();", 5, 21);
        faulty("var a; func f() = 1; a from f;", 5, 28);
        faulty("var a; proc p(); end; a := p;", 5, 27);
        faulty("var a; proc p(); end; p;", 5, 22);
        faulty("var a; proc p(); end; a := 1 + p();", 5, 31);
        faulty("proc p(); q(); end; proc q(); end;", 5, 10);
        accepted("proc p(); p(); end;", 1);
        accepted("func f(x) = f(x);", 0);
        faulty("func f(x) = 1; print(f());", 6, 23);
        faulty("func f(x) = 1; print(f(1, 2));", 6, 27);
        faulty("proc p(x); end; p(1, 2);", 6, 22);
        faulty("var a; proc p(wr x); end; p((a));", 6, 28);
        faulty("var a; proc p(rw x); end; p(a + 1);", 6, 28);
        accepted("var a; proc p(rw x); end; p(a(1){2}(3 .. 4));", 1);
        faulty("func f() = 1; proc p(wr x); end; p(f());", 6, 35);
        faulty("quit;", 7, 0);
        faulty("if true then continue; end;", 7, 13);
        faulty("return;", 7, 0);
        faulty("proc p(); quit; end; while true do p(); end;", 7, 10);
        StringBuilder many = new StringBuilder("var v0");
        for (int i = 1; i < 60; i++) {
            many.append(", v").append(i);
        }
        accepted(many + ";", 0);
        faulty(many + ", v60;", 8, many.length() + 2);
        faulty(many + ", v59;", 4, many.length() + 2);
        faulty(many + "; v0 := {for i in v1 : i};", 8, many.length() + 13);
        accepted(many + "; proc p(a); end; func f(a) = {for i in a : i}; p(1);", 1);
        accepted("func f(a, b, c, d, e, f, g, h) = 1;", 0);
        faulty("func f(a, b, c, d, e, f, g, h, i) = 1;", 8, 31);
        StringBuilder funcs = new StringBuilder();
        for (int i = 0; i < 40; i++) {
            funcs.append("func f").append(i).append("() = 1;");
        }
        faulty(funcs + "proc p(); end;", 8, funcs.length() + 5);
        accepted(repeated("stop;", 400), 400);
        faulty(repeated("stop;", 400) + "quit;", 8, 2000);
        started("var a;");
        due(5, "fault of work()", worked("1 +"), "?2 at 3");
        due(5, "newat in work()", worked("newat"), "?2 at 0");
        due(5, "an empty tape", worked(""), "?2 at 0");
        due(5, "more behind an exp", worked("1 2"), "?2 at 2");
        feed("random(2)");
        due(5, "random in a view", x.view() + " " + x.fault(), "-1 2");
        work("1");
        due(5, "no fault", x.fault(), 0);
    }

    private static void starts() {
        x = new House();
        throwsDue(6, "no program", "IllegalStateException", () -> { x.start(1); return 0; });
        due(6, "a fault is no program", program("x"), -1);
        throwsDue(6, "still none", "IllegalStateException", () -> { x.start(1); return 0; });
        ended("var a; a := random(2147483647); print(a, random({}), random(10), random([7, 8, 9]), random(\"abc\"));");
        String first = output();
        x.start(1);
        due(6, "a new run", x.state(0) + " " + x.state(1) + " " + x.state(3), "0 0 -1");
        x.step(5);
        due(6, "the same SEED", output(), first);
        long seed = 1 * 6364136223846793005L + 1442695040888963407L;
        due(6, "the number drawn", first.split(" ")[0], 1 + (seed >>> 33) % 2147483647L);
        seed = seed * 6364136223846793005L + 1442695040888963407L;
        due(6, "om where there is none, and the SEED stays", first.split(" ")[1] + first.split(" ")[2], "om" + (1 + (seed >>> 33) % 10));
        x.start(-5);
        x.step(5);
        due(6, "another SEED", output().equals(first), false);
    }

    private static void steps() {
        fresh("var i; i := 0; while i < 3 do i + := 1; end; print(i);");
        throwsDue(7, "no run", "IllegalStateException", () -> x.step(30000));
        x.start(1);
        throwsDue(7, "below 0", "IllegalArgumentException", () -> x.step(-1));
        throwsDue(7, "too many", "IllegalArgumentException", () -> x.step(20001));
        due(7, "none", x.step(0) + " " + x.state(0), "0 0");
        due(7, "one", x.step(1) + " " + value("i"), "0 0");
        due(7, "the while's test", x.step(1) + " " + x.state(3), "0 15");
        due(7, "all but the last", x.step(6) + " " + x.state(0) + " " + value("i"), "0 8 3");
        due(7, "the last", x.step(9) + " " + x.state(0) + " " + output(), "1 9 3\n");
        due(7, "it has ended", x.step(5) + " " + x.state(0), "1 9");
        fresh("");
        x.start(1);
        due(7, "no statements", x.state(8) + " " + x.step(0), "1 1");
        started("var a; for i in {1, 2} do a := i; end; for i in {1 .. 9} do end; if false then stop; elseif true then end;");
        due(7, "a for once", x.step(1) + " " + x.state(0), "0 1");
        due(7, "its turns", x.step(2) + " " + x.state(0) + " " + value("a"), "0 3 2");
        due(7, "an empty for, an if with its elseifs", x.step(2) + " " + x.state(0), "1 5");
        started("var a; for i in [1, om, 1] | i > 0 do a := i; end;");
        due(7, "a turn's error comes with the statement before it", x.step(2) + " " + x.state(0) + " " + x.state(2), "2 2 1");
        started("var a; stop; a := 1;");
        due(7, "stop", x.step(9) + " " + x.state(0), "1 1");
    }

    private static void backs() {
        fresh("var i, s; i := 0; s := {}; while true do i + := random(5); s := s + {i}; if i mod 7 = 0 then print(i); end; if # s > 60 then s := {newat}; end; end;");
        throwsDue(8, "no run", "IllegalStateException", () -> x.back(0));
        x.start(7);
        due(8, "none", x.back(0), 0);
        throwsDue(8, "below 0", "IllegalArgumentException", () -> x.back(-1));
        throwsDue(8, "not so many", "IllegalArgumentException", () -> x.back(1));
        int[] places = {0, 1, 2, 31, 32, 33, 255, 256, 257, 500, 511, 513, 1000, 1999, 2001, 2048, 3967, 3998, 3999, 4000};
        String[] states = new String[places.length];
        for (int i = 0; i < places.length; i++) {
            x.start(7);
            x.step(places[i]);
            states[i] = all();
        }
        for (int i = places.length - 2; i >= 0; i--) {
            due(8, "how many then", x.back(places[i + 1] - places[i]), places[i]);
            due(8, "as it was when " + places[i] + " had been begun", all(), states[i]);
        }
        x.step(4000);
        due(8, "all again", all(), states[places.length - 1]);
        for (int i = 3; i < places.length; i += 3) {
            x.back(x.state(0) - places[i]);
            due(8, "back to " + places[i] + " at once", all(), states[i]);
            x.step(4000 - places[i]);
        }
        due(8, "all again", all(), states[places.length - 1]);
        ended("var a; a := 1; a := a div 0;");
        due(8, "an ended run stays so", x.back(0) + " " + x.state(8), "2 2");
        due(8, "before its error", x.back(1) + " " + x.state(8) + " " + x.state(2) + " " + x.state(3), "1 0 0 7");
    }

    private static String all() {
        StringBuilder b = new StringBuilder();
        for (int what = 0; what <= 9; what++) {
            b.append(x.state(what)).append(' ');
        }
        return b.append(value("i")).append(value("s")).toString();
    }

    private static void states() {
        fresh("var a, b; a := 1;");
        throwsDue(9, "no such what", "IndexOutOfBoundsException", () -> x.state(10));
        throwsDue(9, "no such what", "IndexOutOfBoundsException", () -> x.state(-1));
        throwsDue(9, "no run", "IllegalStateException", () -> x.state(9));
        x.start(1);
        throwsDue(9, "no such what", "IndexOutOfBoundsException", () -> x.state(10));
        due(9, "TOTAL: all variables are om", x.state(6), 2);
        started("var a, b; proc p(rd x, wr y, rw z); var v; for i in [1, 2, 3] do y := x; stop; end; end; a := newat; b := ok; p({1, 2}, a, b);");
        x.step(20);
        due(9, "begun", x.state(0), 6);
        due(9, "place", x.state(3), 73);
        due(9, "open calls", x.state(4), 1);
        due(9, "points", x.state(5), 1);
        // a, b; x 5, y 5, z 1, v 1, i 2, what it goes over 7; the point's a, b.
        due(9, "TOTAL", x.state(6), 2 + 5 + 5 + 1 + 1 + 2 + 7 + 2);
        due(9, "atoms", x.state(7), 1);
        due(9, "ended", x.state(8), 1);
        started("var a, s; a := {1, 2} + {3}; s := [[1, 2], 3]; s(1)(2) := 9; s(1) + := [4]; a from a; print(1);");
        due(9, "WORK before one", x.state(9), 0);
        // 2 + 2, then 5; 2, then 3; the sum 7.
        due(9, "WORK of a := {1, 2} + {3}", x.step(1) + " " + x.state(9), "0 21");
        // 2, 2, then 5; 2, then 8.
        due(9, "WORK of a tuple", x.step(1) + " " + x.state(9), "0 19");
        // 2, 2, 2; s(1) is read 5; s(1) has 5, s has 8.
        due(9, "WORK of a target with two parts", x.step(1) + " " + x.state(9), "0 24");
        // 2; 2, then 3; s(1) is read 5; the sum 7; s has 10.
        due(9, "WORK of + :=", x.step(1) + " " + x.state(9), "0 29");
        // What is left has 5.
        due(9, "WORK of from", x.step(1) + " " + x.state(9), "0 5");
        due(9, "WORK of print", x.step(1) + " " + x.state(9), "1 2");
        ended("var a; a := 1; for i in {1 .. 300}, j in {1 .. 300} do end;");
        due(9, "error, place, WORK", x.state(2) + " " + x.state(3) + " " + (x.state(9) > 60000), "11 15 true");
    }

    private static void outputs() {
        fresh("print(1);");
        throwsDue(10, "no run", "IndexOutOfBoundsException", () -> x.out(0));
        x.start(1);
        throwsDue(10, "nothing yet", "IndexOutOfBoundsException", () -> x.out(0));
        x.step(1);
        due(10, "bytes", x.out(0) + " " + x.out(1), "49 10");
        throwsDue(10, "behind the last", "IndexOutOfBoundsException", () -> x.out(2));
        throwsDue(10, "below 0", "IndexOutOfBoundsException", () -> x.out(-1));
        started("while true do print(\"" + repeated("x", 98) + "\", char(255)); end;");
        x.step(1400);
        due(10, "counted", x.state(1), 700 * 101);
        due(10, "the last that is kept", x.out(59999), "x".charAt(0) + 0);
        due(10, "byte 255", x.out(99), 255);
        throwsDue(10, "not kept", "IndexOutOfBoundsException", () -> x.out(60000));
        prints(10, "print(om, true, false, -12, 0, \"a b\", [\"a\", [], {}, om, 1], {2, 1}, [om]);",
            "om true false -12 0 a b [\"a\", [], {}, om, 1] {1, 2} []/");
        prints(10, "print(\"\"); print({newat, newat}, \"\", {\"\", \"b\", \"ab\"});", "/{#1, #2}  {\"\", \"ab\", \"b\"}/");
    }

    private static void values() {
        fresh("var ab, s; func f() = 1; proc p(); var loc; end; ab := \"x\"; for k in {1} do s := {k, [2]}; end;");
        throwsDue(11, "no run", "IllegalStateException", () -> x.value());
        x.start(1);
        feed("ab");
        due(11, "om at first", x.value() + shown(), "2om");
        due(11, "the tape is empty then", x.count(0), 0);
        x.step(9);
        due(11, "a string with its signs", value("ab"), "\"x\"");
        due(11, "a set", value("s"), "{1, [2]}");
        for (String name : new String[] {"f", "p", "loc", "k", "", "a", "abc", "ab s", "1", "if", "ab;", "$"}) {
            feed(name);
            throwsDue(11, "no such name: " + name, "IllegalArgumentException", () -> x.value());
            due(11, "the tape stays", x.count(0), name.length());
            x.end(0);
        }
        due(11, "what is shown stays", shown(), "{1, [2]}");
    }

    private static void works() {
        fresh("var a, f; func sq(x) = x * x; func down(n) = if n = 0 then 0 else 1 + down(n - 1) end; a := [1, 2]; f := {[1, 2], [1, 3], [2, 5]};");
        throwsDue(12, "no run", "IllegalStateException", () -> x.work());
        x.start(1);
        x.step(9);
        exps(12, "a", "[1, 2]", "sq(# f) + a(2)", "11", "down(19)", "19", "down(20)", "!7", "f(1)", "om", "f(2)", "5",
            "f{1}", "{2, 3}", "f{7}", "{}", "a(3)", "om", "a(0)", "!4", "a(\"x\")", "!1", "a{1}", "!1", "f(1 .. 2)", "!1",
            "a(1 .. 1)", "[1]", "a(3 .. 2)", "[]", "a(2 .. 0)", "!4", "a(1 .. 3)", "!4", "{1}(1)", "!1", "\"abc\"(2)", "\"b\"");
        String drawn = worked("random(1000000)");
        due(12, "the SEED stays", worked("random(1000000)"), drawn);
        int n = x.shape(3);
        due(12, "with a fault", work("(1") + " " + shown() + " " + x.shape(3), "-102 " + drawn + " 0");
        due(12, "with an error", work("1 div 0") + " " + shown() + " " + x.shape(3), "-3 " + drawn + " 3");
        due(12, "the tape is empty then", x.count(0), 0);
        due(12, "WORK of random", n > 0, true);
        due(12, "the run's own WORK stays", x.state(9) > 10, true);
    }

    private static void operators() {
        started("var a;");
        exps(12, "7 div 2", "3", "-7 div 2", "-4", "7 div -2", "-3", "-7 div -2", "4", "-7 mod 2", "1", "7 mod -2", "1",
            "-7 mod -2", "1", "1 mod 0", "!2", "1 div \"a\"", "!1", "2 ** 10", "1024", "0 ** 0", "1", "2 ** -1", "!4",
            "-2 ** 2", "4", "2 ** 3 ** 2", "512", "2 ** 1023 + (2 ** 1023 - 1) - 2 ** 1023 * 1 - (2 ** 1023 - 1)", "0",
            "2 ** 1024", "!5", "1 ** (10 ** 50)", "1", "(-1) ** (10 ** 50 + 1)", "-1", "2 ** (10 ** 50)", "!5",
            "(2 ** 1023) * 2", "!5", "(- 2 ** 1023) - 2 ** 1023", "!5",
            "10 ** 40 div (10 ** 20 + 1)", "99999999999999999999", "- (10 ** 40) mod (10 ** 20 + 1)", "100000000000000000000",
            "134217727 + 1", "134217728", "- 134217728 - 1", "-134217729", "4294967295 + 1", "4294967296",
            "134217728 * 134217728", "18014398509481984", "99999999999 - 99999999998", "1");
        exps(12, "\"ab\" + \"cd\"", "\"abcd\"", "[1] + [om, 2]", "[1, om, 2]", "{1, 2} + {2, 3}", "{1, 2, 3}", "1 + \"a\"", "!1",
            "om + om", "!1", "{1, 2, 3} - {2}", "{1, 3}", "[1] - [1]", "!1", "{1, 2} * {2, 3}", "{2}", "\"ab\" * 3", "\"ababab\"",
            "[1, 2] * 2", "[1, 2, 1, 2]", "\"ab\" * 0", "\"\"", "\"ab\" * -1", "!4", "3 * \"ab\"", "!1", "\"\" * 10 ** 99", "\"\"",
            "\"a\" * 3996 = \"a\" * 1998 * 2", "true", "\"a\" * 3997", "!5", "[0] * 999 = [0] * 998 + [0]", "true", "[0] * 1000", "!5");
        exps(12, "1 < 2", "true", "\"a\" < \"ab\"", "true", "\"b\" <= \"ab\"", "false", "1 < \"a\"", "!1", "{1} < {2}", "!1",
            "1 >= 1", "true", "[1] = [1, om]", "true", "{1, 2} = {2, 1}", "true", "1 = \"1\"", "false", "om = om", "true", "om /= 1", "true",
            "1 in {1, 2}", "true", "om in [om, 1]", "false", "1 in [om, 1]", "true", "\"\" in \"\"", "true", "\"bc\" in \"abcd\"", "true",
            "\"ca\" in \"abcd\"", "false", "1 in \"1\"", "!1", "1 in 1", "!1", "3 notin {1}", "true", "{1} subset {1, 2}", "true",
            "{} subset {}", "true", "{3} subset {1, 2}", "false", "[1] subset {1}", "!1",
            "true and 1", "!9", "false and 1", "false", "true or 1", "true", "1 or true", "!9", "not 1", "!9", "not not true", "true",
            "not 1 = 2 and true", "true", "- \"a\"", "!1", "# 5", "!1", "# \"abc\"", "3", "# {1, 1}", "1", "# [1, om, 3]", "3");
        exps(12, "+/ [1, 2, 3]", "6", "+/ [\"a\", \"b\"]", "\"ab\"", "+/ {}", "om", "+/ [[1]]", "[1]", "+/ [om]", "om", "+/ [om, 1]", "!1",
            "*/ {1, 2, 3, 4}", "24", "max/ {3, 9, 4}", "9", "min/ [\"b\", \"a\"]", "\"a\"", "max/ [{}]", "{}", "max/ [1, \"a\"]", "!1",
            "max/ []", "om", "+/ \"abc\"", "!1", "- + / {1, 2}", "-3");
        exps(12, "abs(-5)", "5", "abs(\"a\")", "!1", "arb({3, 2})", "2", "arb({})", "om", "arb([1])", "!1", "domain({[1, 2], [1, 3]})", "{1}",
            "range({[1, 2], [3, 2]})", "{2}", "domain({[om, 1]})", "!3", "domain({1})", "!1", "domain({})", "{}",
            "pow({1, 2})", "{{}, {1}, {1, 2}, {2}}", "pow({1, 2, 3, 4, 5, 6, 7, 8, 9})", "!5", "pow({})", "{{}}", "pow(1)", "!1",
            "[type(om), type(true), type(1), type(\"\"), type([]), type({})]", "[\"om\", \"truth\", \"whole\", \"string\", \"tuple\", \"set\"]",
            "str(\"a\")", "\"\"a\"\"", "# str([1, om, {\"x\"}])", "14", "char(65)", "\"A\"", "char(256)", "!4", "char(\"a\")", "!1",
            "code(\"A\")", "65", "code(\"\")", "!4", "code(65)", "!1", "rev(\"abc\")", "\"cba\"", "rev([om, 1])", "[1]", "rev({1})", "!1",
            "random(0)", "!4", "random(2147483648)", "!4", "random(om)", "!1", "random([])", "om", "random(1)", "1");
        exps(12, "{3 .. 1}", "{}", "[1 .. 3]", "[1, 2, 3]", "{1, 3 .. 8}", "{1, 3, 5, 7}", "[5, 3 .. 0]", "[5, 3, 1]", "{5, 3 .. 0}", "{1, 3, 5}",
            "{1, 1 .. 5}", "{}", "[1, 9 .. 5]", "[1]", "{1 .. \"a\"}", "!1", "[1, om .. 3]", "!1", "# {1 .. 499}", "499", "{1 .. 500}", "!5",
            "{}", "{}", "[]", "[]", "{1, om}", "!3", "{om, 1 div 0}", "!2", "[1, om, om]", "[1]", "{[1, 2], {3}, \"a\", 1, true, om = 1}",
            "{false, true, 1, \"a\", [1, 2], {3}}", "{[2], [1, 5], [1], []}", "{[], [1], [1, 5], [2]}", "{{2}, {1, 5}, {}, {1}}", "{{}, {1}, {1, 5}, {2}}");
        exps(12, "{for i in {1 .. 3}, j in [1 .. i] | i /= 2 : [i, j]}", "{[1, 1], [3, 1], [3, 2], [3, 3]}",
            "[for c in \"abc\" : c + c]", "[\"aa\", \"bb\", \"cc\"]", "[for x in [om, 1] : x]", "[om, 1]", "{for x in [om, 1] : x}", "!3", "{for x in [om] : x}", "{}",
            "[for [a, b, c] in {[1, 2]} : [c, b, a]]", "[[om, 2, 1]]", "[for [a] in {[1, 2]} : a]", "!1", "[for [a] in {1} : a]", "!1",
            "[for x in 5 : x]", "!1", "[for x in {1} | 5 : x]", "!9", "exists x in {1, 2} | x = 1 or x div 0 = 1", "true",
            "forall x in {1, 2} | x > 1 and x div 0 = 1", "false", "exists x in {} | x", "false", "forall x in {} | x", "true",
            "exists x in {1} | 1", "!9", "if 1 < 2 then \"y\" else 1 div 0 end", "\"y\"", "if false then 1 elseif true then 2 else 3 end", "2",
            "if 1 then 2 else 3 end", "!9");
    }

    private static void workCounts() {
        started("var a, b; func f(x) = x; a := [1, 2]; b := true;");
        x.step(2);
        workCounted("a", 0);
        workCounted("(om)", 0);
        workCounted("12", 2);
        workCounted("0", 1);
        workCounted("2147483648 * 4", 2 + 2 + 3);
        workCounted("\"abcde\"", 3);
        workCounted("a(1)", 2 + 2);
        workCounted("- 1", 4);
        workCounted("b and b and b", 2);
        workCounted("b or b or b", 2);
        workCounted("not b", 1);
        workCounted("a = a", 1);
        workCounted("{}", 1);
        workCounted("[1, 2]", 9);
        workCounted("{1 .. 3}", 4 + 7);
        workCounted("+/ a", 2 + 2);
        workCounted("+/ [a, a]", 11 + 9 + 9);
        workCounted("max/ a", 2);
        workCounted("+/ []", 1 + 1);
        workCounted("f(a)", 5);
        workCounted("abs(1)", 4);
        workCounted("if b then a else 1 end", 0);
        workCounted("[for x in a | x > 1 : x]", 2 + 2 * (2 + 1) + 3);
        workCounted("exists x in a | x = 1", 1 + 2 + 1 + 1);
        workCounted("forall x in a | b", 2 + 1);
        workCounted("1 div 0", 2 + 1);
        workCounted("{for x in [1 .. 400], y in [1 .. 400] : b}", 60705);
        due(12, "work beyond its limit", work("# [for x in [1 .. 400], y in [1 .. 400] : b]"), -12);
    }

    private static void statements() {
        prints(7, "var t; t := [1]; t(3) := 5; print(t); t(3) := om; print(t); t(1 .. 1) := [7, 8]; print(t);", "[1, om, 5]/[1]/[7, 8]/");
        prints(7, "var w; w := \"ab\"; w(3) := \"c\"; w(1) := \"x\"; print(w); w(2 .. 3) := \"\"; print(w); w(3) := \"z\";", "xbc/x/!4 at 81");
        prints(7, "var f; f := {}; f(1) := 2; f{3} := {4, 5}; print(f); f(3) := om; print(f); f(1) := 9; print(f); f{1} := {}; print(f);",
            "{[1, 2], [3, 4], [3, 5]}/{[1, 2]}/{[1, 9]}/{}/");
        prints(7, "var f; f(1) := 2;", "!1 at 7");
        prints(7, "var t; t := []; t(0) := 1;", "!4 at 16");
        prints(7, "var t; t := []; t(\"a\") := 1;", "!1 at 16");
        prints(7, "var t; t := []; t(999) := 0; print(# t); t(1001) := om; print(# t); t(1000) := 0;", "999/999/!5 at 68");
        prints(7, "var w; w := \"ab\"; w(9) := \"cd\";", "!1 at 18");
        prints(7, "var t; t := [[1, 2], [3]]; t(1)(2) := t; print(t);", "[[1, [[1, 2], [3]]], [3]]/");
        prints(7, "var a, b; [a, b] := [b, 1, 2]; print(a, b); [b, -, a] := [5]; print(a, b); [a] := {1};", "om 1/om 5/!1 at 75");
        prints(7, "var a, s; s := {3, 1}; a from s; print(a, s); a from s; a from s; print(a, s);", "1 {3}/om {}/");
        prints(7, "var a, t; t := [om, 2, om, 4]; a frome t; print(a, t); a fromb t; print(a, t); a frome t; a fromb t; print(a, t);",
            "4 [om, 2]/om [2]/om []/");
        prints(7, "var a, w; w := \"abc\"; a fromb w; print(a, w); a frome w; print(a, w); a from w;", "a bc/c b/!1 at 70");
        prints(7, "var a; a := {1}; a from a; print(a);", "1/");
        prints(7, "var a; a := 5; a + := 2; a * := a; a - := 1; print(a); a + := \"x\";", "48/!1 at 55");
        prints(7, "proc p(a, wr b, rw c); var l; print(a, b, c, l); a := 1; b := 2; c := 3; return 4; end; var x, y, z; x := 7; y := 8; z := p(x, y, x); print(x, y, z);",
            "7 om 7 om/3 2 4/");
        prints(7, "proc p(wr i, wr t); i := 2; t := 9; end; var i, t; i := 1; t := [0, 0]; p(i, t(i)); print(i, t);", "2 [0, 9]/");
        prints(7, "var t; proc p(); return; end; t := [1]; t(1) := p(); print(t);", "[]/");
        prints(7, "proc p(n); p(n + 1); end; p(1);", "!7 at 11");
        prints(7, "proc p(n); if n > 0 then p(n - 1); else print(n); end; end; p(49);", "0/");
        prints(7, "var i; i := 0; while true do i + := 1; if i = 2 then continue; end; if i > 3 then quit; end; print(i); end;", "1/3/");
        prints(7, "for i in {1, 2}, j in \"ab\" do if j = \"b\" then continue; end; print(i, j); end;", "1 a/2 a/");
        prints(7, "var s; s := {1, 2, 3}; for x in s | x /= 2 do s := s - {3}; print(x); end; print(s);", "1/3/{1, 2}/");
        prints(7, "for [a, b] in [[1, 2], [3]] do print(a, b); a := 0; end; for i in {1} do for i in {2} do print(i); end; print(i); end;", "1 2/3 om/2/1/");
        prints(7, "for i in 5 do end;", "!1 at 0");
        prints(7, "if 1 then end;", "!9 at 0");
        prints(7, "while om do end;", "!9 at 0");
        prints(7, "assert 1 = 1; assert false;", "!8 at 14");
        prints(7, "assert 5;", "!9 at 0");
        prints(7, "fail;", "!10 at 0");
        prints(7, "succeed;", "!10 at 0");
        prints(7, "var a, b; a := 1; b := ok; print(a, b); a := 2; if b then fail; end; print(a, b);", "1 true/1 false/2 false/");
        prints(7, "var a; if ok then a := 1; print(newat); fail; elseif a = om then print(\"else\", newat); end;", "#1/else #2/");
        prints(7, "if ok then if ok then succeed; fail; else print(1); end; else print(2); end;", "2/");
        prints(7, "proc p(); for i in {1 .. 5} do if ok then return i; else print(i); end; end; end; var x; x := p(); print(\"got\", x); if x < 3 then fail; end; print(\"end\");",
            "got 1/1/got 2/2/got 3/end/");
        StringBuilder points = new StringBuilder("var a;");
        for (int i = 0; i < 21; i++) {
            points.append("a := ok;");
        }
        prints(7, points.toString(), "!6 at 166");
        prints(7, "var a, b, c; a := [1 .. 499]; b := a; for i in a do c := ok; end;", "!6 at 52");
        prints(7, "var a; a := {}; while true do a := {a}; end;", "!5 at 30");
        prints(7, "func f(n) = if n = 0 then {} else {f(n - 1)} end; print(f(19));",
            repeated("{", 20) + repeated("}", 20) + "/");
        prints(7, "func f(n) = ((((f(n))))); print(f(1));", "!7 at 26");
        prints(7, "var x; for i in {1 .. 3} do x := i; if i = 2 then quit; end; end; print(x); -- the end", "2/");
    }

    /** Rows that grow while they are in use: long texts of one kind each. */
    private static void longTexts() {
        prints(7, "var a; [" + repeated("a, -, ", 400) + "a] := [1 .. 400]; print(a);", "om/");
        prints(7, "var a; [" + repeated("-, ", 398) + "a] := [1 .. 400]; print(a);", "399/");
        prints(7, "print({" + repeated("1, ", 2000) + "2});", "{1, 2}/");
        prints(7, "print(# [" + repeated("om, ", 998) + "false]);", "999/");
        prints(7, "print([" + repeated("om, ", 2000) + "om]);", "[]/");
        prints(7, "var w; w := \"abc\"; w" + repeated("(1)", 1500) + " := \"x\"; print(w, w" + repeated("(1 .. 2)", 300) + ");", "xbc xb/");
        prints(7, "var a; a := 7; print(" + repeated("a, ", 1000) + "a);", repeated("7 ", 1000) + "7/");
        prints(7, "print(" + repeated("1 + ", 2000) + "1);", "2001/");
        prints(7, "print(" + repeated("true and ", 1000) + "false);", "false/");
        prints(7, "print(if false then 1 " + repeated("elseif false then 2 ", 300) + "else 3 end);", "3/");
        prints(7, "if false then " + repeated("elseif false then ", 300) + "else print(3); end;", "3/");
        prints(7, "var a; proc p(rw b, rw c); b := b + 1; c := c * 2; end; a := [[[0]], 4]; p(a" + repeated("(1 .. 2)", 100) + "(2), a(1)(1)(1)); print(a);",
            "[[[0]], 5]/");
    }

    /** Rows of more members than a value can have: all are worked before it errs, and om at the end is not there. */
    private static void longRows() {
        started("var a, b; func f(n) = if n > 0 then {a, b, " + repeated("a, ", 1100) + "# f(n - 1)} else {} end; a := true; b := 7;");
        x.step(2);
        exps(12, "[" + repeated("om, ", 1500) + "om]", "[]",
            "# [" + repeated("a, ", 998) + "a" + repeated(", om", 500) + "]", "999",
            "[" + repeated("a, ", 999) + "a]", "!5",
            "[" + repeated("a, ", 1000) + "a]", "!5",
            "[" + repeated("a, ", 1200) + "om]", "!5",
            "[" + repeated("om, ", 999) + "a]", "!5",
            "[" + repeated("om, ", 1200) + "a]", "!5",
            "[" + repeated("a, ", 1200) + "1 div 0]", "!2",
            "[1, " + repeated("om, ", 1200) + "om]", "[1]");
        exps(12, "{" + repeated("a, ", 1500) + "b}", "{true, 7}",
            "{b, " + repeated("a, b, ", 700) + "1}", "{true, 1, 7}",
            "{" + repeated("a, ", 1500) + "om}", "!3",
            "{om, " + repeated("a, ", 1500) + "a}", "!3",
            "{" + repeated("a, ", 999) + "om, a}", "!3",
            "{" + repeated("a, ", 1000) + "om, a}", "!3",
            "{" + repeated("om, ", 1500) + "1 div 0}", "!2",
            "{" + repeated("a, ", 1500) + "[a] * 999}", "!5",
            "{" + repeated("a, ", 1500) + "[a] * 998}", "!5",
            "# {" + repeated("a, ", 1500) + "[a] * 997}", "2",
            "f(3)", "{true, 3, 7}");
        StringBuilder many = new StringBuilder();
        for (int i = 0; i < 1100; i++) {
            many.append(i).append(", ");
        }
        exps(12, "{" + many + "0}", "!5", "{" + many + "om}", "!3", "{" + many + "1 div 0}", "!2", "[" + many + "om]", "!5");
        workCounted("{" + repeated("a, ", 1500) + "b}", 4);
        workCounted("[" + repeated("0, ", 400) + repeated("om, ", 800) + "om]", 801);
    }

    /** Names and rows of fors go and come back with the fors around them. */
    private static void loopsWithinLoops() {
        prints(7, "var s; proc p(n); for i in {1..n} do for j in [i..n] do if j = 3 then quit; end; if i = j then continue; end; print(i, j); end; for k in \"ab\" do print(k, i); return; end; end; end; for a in {3..4} do p(a); for b in {a} do print(a, b); end; end;",
            "1 2/a 1/3 3/1 2/a 1/4 4/");
        prints(7, "var s, t; s := 0; for i in {1..3}, j in {i..3} do if ok then t := i; for k in {1..9} do if k > j then fail; end; s := s + 1; end; else s := s + 10 * i; end; print(i, j, s, t); end;",
            "1 1 10 om/1 2 20 om/1 3 30 om/2 2 50 om/2 3 70 om/3 3 100 om/");
        prints(7, "var s; proc p(n); for i in {1..2} do if n > 0 then for j in {5} do p(n - 1); s := s + [[n, i, j]]; end; end; end; end; s := []; p(2); print(s);",
            "[[1, 1, 5], [1, 2, 5], [2, 1, 5], [1, 1, 5], [1, 2, 5], [2, 2, 5]]/");
        started("var a; for i in {1..3} do for [j, k] in {[1, 2]} do a := i; end; a := om; end; for l in \"ab\" do a := l; end; a := 1;");
        StringBuilder totals = new StringBuilder();
        for (int i = 0; i < 14; i++) {
            x.step(1);
            totals.append(x.state(6)).append(' ');
        }
        // a, i, j, k, l; besides what the fors go over and what their names have
        due(9, "TOTAL in fors", totals.toString(), "13 21 14 13 21 14 13 21 14 5 8 9 6 6 ");
    }

    private static void views() {
        x = new House();
        throwsDue(13, "no program", "IllegalStateException", () -> x.view());
        fresh("var s, t; func f(x) = x + 1; s := {1, 2}; t := 5; s := {2, 3}; s := 7; s := {}; s := {1} + t;");
        feed("{for i in s : f(i)}");
        due(13, "its number", x.view() + " " + x.count(0), "0 0");
        feed("t div 0");
        due(13, "the next", x.view(), 1);
        feed("s +");
        due(13, "a fault", x.view() + " " + x.fault() + " " + x.count(4), "-4 2 2");
        feed("u");
        due(13, "an unknown name", x.view() + " " + x.fault(), "-1 5");
        feed("s");
        due(13, "one more", x.view(), 2);
        throwsDue(14, "no run", "IllegalStateException", () -> x.round());
        throwsDue(15, "no round", "IllegalStateException", () -> x.seen(0, 0));
        throwsDue(15, "no such view", "IndexOutOfBoundsException", () -> x.seen(3, 0));
        x.start(1);
        due(14, "om at first: none changed", x.round(), 0);
        due(15, "did not change", seen(0, 0) + seen(0, 1) + seen(0, 2), "om{}{}");
        x.step(1);
        due(14, "two changed", x.round(), 2);
        due(15, "no two sets", seen(0, 0) + seen(0, 1) + seen(0, 2), "{2, 3}{2, 3}om");
        x.step(1);
        due(14, "what errs is om", x.round() + seen(1, 0), "0om");
        x.step(1);
        due(14, "changed", x.round(), 2);
        due(15, "of two sets", seen(0, 0) + seen(0, 1) + seen(0, 2), "{3, 4}{4}{2}");
        due(15, "the other", seen(2, 1) + seen(2, 2), "{3}{1}");
        x.step(1);
        due(14, "an error and a whole", x.round(), 2);
        due(15, "the value that was", seen(0, 1) + seen(0, 2) + seen(2, 1) + seen(2, 2), "om{3, 4}7{2, 3}");
        throwsDue(15, "no such which", "IndexOutOfBoundsException", () -> x.seen(0, 3));
        throwsDue(15, "no such which", "IndexOutOfBoundsException", () -> x.seen(0, -1));
        throwsDue(15, "no such view", "IndexOutOfBoundsException", () -> x.seen(-1, 0));
        feed("t");
        due(13, "a view later on", x.view(), 3);
        throwsDue(15, "no round since that view", "IllegalStateException", () -> x.seen(3, 0));
        due(15, "the others stay", seen(2, 0), "7");
        x.start(2);
        due(15, "and with a new run", seen(2, 0), "7");
        due(14, "a round of the new run", x.round() + seen(3, 1) + seen(2, 2), "1{}7");
        for (int i = 4; i < 8; i++) {
            feed("1");
            due(13, "view " + i, x.view(), i);
        }
        feed("1");
        throwsDue(13, "the ninth", "UnsupportedOperationException", () -> x.view());
        due(13, "the tape stays", x.count(0), 1);
    }

    private static void shownBytes() {
        started("var a;");
        due(16, "how many", work("\"a\" + char(200)"), 4);
        due(16, "bytes", x.shown(0) + " " + x.shown(1) + " " + x.shown(2) + " " + x.shown(3), "34 97 200 34");
        throwsDue(16, "behind", "IndexOutOfBoundsException", () -> x.shown(4));
        throwsDue(16, "below 0", "IndexOutOfBoundsException", () -> x.shown(-1));
        due(16, "as long as may be", work("[for i in [1 .. 499] : \"\"] + [true] * 499"), 499 * 4 + 499 * 6);
    }

    private static void shapes() {
        started("var a; a := newat;");
        throwsDue(17, "no such what", "IndexOutOfBoundsException", () -> x.shape(4));
        throwsDue(17, "no such what", "IndexOutOfBoundsException", () -> x.shape(-1));
        x.step(1);
        String[] texts = {"om", "true", "0", "a", "\"abcde\"", "[om, 1]", "{{}, 2}", "2 ** 32", "2 ** 32 - 1", "\"\"", "- (2 ** 1023)", "\"abcd\""};
        String[] shapes = {"0 1 0", "1 1 0", "2 1 0", "3 1 0", "4 3 5", "5 4 2", "6 4 2", "2 3 0", "2 2 0", "4 1 0", "2 33 0", "4 2 4"};
        for (int i = 0; i < texts.length; i++) {
            work(texts[i]);
            due(17, "shape of " + texts[i], x.shape(0) + " " + x.shape(1) + " " + x.shape(2), shapes[i]);
        }
        work("1 div 0");
        due(17, "as before with an error", x.shape(0) + " " + x.shape(1), "4 2");
        workCounts();
    }

    private static void orders() {
        started("var a, b; a := newat; b := newat;");
        x.step(2);
        String[] rising = {"om", "false", "true", "- (2 ** 200)", "- (2 ** 100)", "-5", "0", "7", "134217728", "2 ** 100", "2 ** 200", "a", "b", "\"\"",
            "\"a\"", "\"ab\"", "\"b\"", "char(200)", "[]", "[om, 1]", "[1]", "[1, 2]", "[2]", "{}", "{1}", "{1, 2}", "{2}", "{{}}"};
        work(rising[0]);
        due(18, "not two yet", x.order(), 0);
        for (int i = 0; i < rising.length; i++) {
            for (int k = 0; k < rising.length; k++) {
                work(rising[i]);
                work(rising[k]);
                due(18, rising[k] + " behind " + rising[i], x.order(), Integer.compare(k, i));
            }
        }
    }

    private static void counts() {
        fresh("var a, b; func f(x) = {for k in x : k}; proc p(y); var l; for m in y do end; end; proc q(); end; for i in {1}, [j, k] in {} do a := {for n in {2} : n}; end;");
        feed("1 + 1");
        due(19, "bytes on the tape", x.count(0), 5);
        due(19, "statements", x.count(1), 3);
        due(19, "variables, names of iters too", x.count(2), 6);
        due(19, "procs", x.count(3), 2);
        x.view();
        due(19, "views", x.count(4), 1);
        throwsDue(19, "no such what", "IndexOutOfBoundsException", () -> x.count(5));
        throwsDue(19, "no such what", "IndexOutOfBoundsException", () -> x.count(-1));
    }

    /** The example that README.md tells. */
    private static void readme() {
        x = new House();
        due(4, "README: program", program("var s; s := {for i in {1..9} : i * i mod 7}; print(s);"), 2);
        feed("#s");
        due(13, "README: view", x.view(), 0);
        x.start(1);
        due(7, "README: step", x.step(1), 0);
        due(14, "README: round", x.round(), 1);
        due(15, "README: seen", x.seen(0, 0) + " " + x.shown(0), "1 52");
        due(7, "README: the last step", x.step(100), 1);
        due(10, "README: out", x.out(0), 123);
        feed("max / s");
        due(12, "README: work", x.work() + " " + shown(), "1 4");
        due(8, "README: back", x.back(1), 1);
    }

    public static void main(String[] args) {
        readme();
        newObject();
        feeding();
        ending();
        programs();
        faults();
        starts();
        steps();
        backs();
        states();
        outputs();
        values();
        works();
        operators();
        statements();
        longTexts();
        longRows();
        loopsWithinLoops();
        views();
        shownBytes();
        shapes();
        orders();
        counts();
        finish();
    }
}

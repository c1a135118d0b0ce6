/** Section 4 of the document, A RUN, and the edges of the promises: refused calls change nothing, and each number at its last and first. */
public final class RunEdges extends Checks {
    private static final String COUNTING = "var i; i := 0; while i < 50000 do i + := 1; end; print(i);";

    // ------------------------------------------------ which exception

    private static void nothingThereYet() {
        x = new House();
        for (int what : new int[] {-1, 10, Integer.MIN_VALUE, Integer.MAX_VALUE}) {
            refused(9, "state(" + what + ") without a run", "IndexOutOfBoundsException", () -> x.state(what));
        }
        for (int what = 0; what <= 9; what++) {
            int each = what;
            refused(9, "state(" + what + ") without a run", "IllegalStateException", () -> x.state(each));
        }
        for (int n : new int[] {-1, 0, 1, 20000, 20001}) {
            refused(7, "step(" + n + ") without a run", "IllegalStateException", () -> x.step(n));
            refused(8, "back(" + n + ") without a run", "IllegalStateException", () -> x.back(n));
            refused(10, "out(" + n + ") without a run", "IndexOutOfBoundsException", () -> x.out(n));
            refused(16, "shown(" + n + ")", "IndexOutOfBoundsException", () -> x.shown(n));
        }
        feed("a $");
        refused(6, "start", "IllegalStateException", () -> { x.start(0); return 0; });
        refused(11, "value", "IllegalStateException", () -> x.value());
        refused(12, "work", "IllegalStateException", () -> x.work());
        refused(13, "view", "IllegalStateException", () -> x.view());
        refused(14, "round", "IllegalStateException", () -> x.round());
        refused(15, "seen", "IndexOutOfBoundsException", () -> x.seen(0, 0));
        refused(3, "end(-1)", "IllegalArgumentException", () -> { x.end(-1); return 0; });
        refused(3, "end(4)", "IllegalArgumentException", () -> { x.end(4); return 0; });
        refused(3, "end of the least", "IllegalArgumentException", () -> { x.end(Integer.MIN_VALUE); return 0; });
        refused(3, "end of the greatest", "IllegalArgumentException", () -> { x.end(Integer.MAX_VALUE); return 0; });
        refused(17, "shape(-1)", "IndexOutOfBoundsException", () -> x.shape(-1));
        refused(17, "shape(4)", "IndexOutOfBoundsException", () -> x.shape(4));
        refused(19, "count(-1)", "IndexOutOfBoundsException", () -> x.count(-1));
        refused(19, "count(5)", "IndexOutOfBoundsException", () -> x.count(5));
        due(3, "the tape", x.count(0), 3);
        x.end(3);
        due(3, "all that it has", x.count(0), 3);
        x.end(0);
        due(3, "none", x.count(0), 0);
    }

    private static void programWithoutRun() {
        fresh("var a; a := 1;");
        refused(14, "round without a run", "IllegalStateException", () -> x.round());
        refused(12, "work without a run", "IllegalStateException", () -> x.work());
        refused(11, "value without a run", "IllegalStateException", () -> x.value());
        feed("a");
        due(13, "a view without a run", x.view(), 0);
        refused(15, "no round since the view", "IllegalStateException", () -> x.seen(0, 0));
        refused(15, "no such view", "IndexOutOfBoundsException", () -> x.seen(1, 0));
        refused(15, "no such view", "IndexOutOfBoundsException", () -> x.seen(-1, 0));
        refused(15, "no such which", "IndexOutOfBoundsException", () -> x.seen(0, 3));
        refused(15, "no such which", "IndexOutOfBoundsException", () -> x.seen(0, -1));
        refused(14, "round without a run", "IllegalStateException", () -> x.round());
    }

    private static void programs() {
        ended("var a; a := 1; print(a);");
        feed("a");
        x.view();
        x.round();
        seen(0, 0);
        String before = stateRow() + output() + shown() + x.count(1) + x.count(2) + x.count(3) + x.count(4);
        due(4, "a fault", program("var b; b := 1; b := 2; proc p(); end;") + " " + x.fault(), "-24 2");
        due(4, "what was before stays", stateRow() + output() + shown() + x.count(1) + x.count(2) + x.count(3) + x.count(4), before);
        due(4, "the names, too", worked("a + 1") + worked("b"), "2?5 at 0");
        due(15, "and the round", seen(0, 0), "1");
        due(4, "an empty one", program("") + " " + x.fault(), "0 0");
        due(4, "no views", x.count(1) + " " + x.count(2) + " " + x.count(4), "0 0 0");
        due(4, "what is shown stays", shown() + " " + x.shape(0), "1 2");
        refused(9, "no run", "IllegalStateException", () -> x.state(0));
        refused(10, "no output", "IndexOutOfBoundsException", () -> x.out(0));
        refused(15, "no view", "IndexOutOfBoundsException", () -> x.seen(0, 0));
        x.start(0);
        due(7, "ended at once", x.state(8) + " " + x.step(0) + " " + x.state(0) + " " + x.state(3) + " " + x.step(20000), "1 1 0 -1 1");
        due(8, "none to go back", x.back(0) + " " + tried(() -> x.back(1)), "0 IllegalArgumentException");
        fresh("var a; proc p(); if a then a := 1; elseif a then a := 2; else a := 3; end; end; while a do p(); end; for i in a do quit; end; [a] := a; if ok then end;");
        due(4, "statements in all", x.count(1), 10);
    }

    private static void faults() {
        started("var a;");
        due(5, "none", x.fault(), 0);
        work("a +");
        due(5, "of work()", x.fault(), 2);
        value("a");
        due(5, "value() has none of its own", x.fault(), 2);
        work("1 div 0");
        due(5, "an error is none", x.fault(), 0);
        feed("$");
        x.view();
        due(5, "of view()", x.fault(), 1);
        x.round();
        due(5, "round() has none", x.fault(), 1);
        program("u");
        due(5, "of program()", x.fault(), 5);
        feed("a");
        x.view();
        due(5, "a view without one", x.fault(), 0);
    }

    // ------------------------------------------------ steps

    private static void steps() {
        started(COUNTING);
        for (int n : new int[] {-1, 20001, Integer.MIN_VALUE, Integer.MAX_VALUE}) {
            refused(7, "step(" + n + ")", "IllegalArgumentException", () -> x.step(n));
        }
        due(7, "none", x.step(0) + " " + x.state(0) + " " + x.state(3), "0 0 -1");
        due(7, "20000", x.step(20000) + " " + x.state(0), "0 20000");
        due(7, "1", x.step(1) + " " + x.state(0), "0 20001");
        for (int i = 0; i < 3; i++) {
            x.step(20000);
        }
        x.step(19999);
        due(7, "100000 of 100003", x.state(0) + " " + x.state(8), "100000 0");
        due(7, "the while's last test", x.step(2) + " " + x.state(0) + " " + x.state(1), "0 100002 0");
        due(7, "the last one", x.step(1) + " " + x.state(0) + " " + x.state(1), "1 100003 6");
        due(7, "it has ended", x.step(1) + " " + x.step(20000) + " " + x.step(0) + " " + x.state(0), "1 1 1 100003");
        due(8, "far back", x.back(100003) + " " + x.state(8) + " " + x.state(3), "0 0 -1");
        due(7, "and on again", x.step(7) + " " + value("i"), "0 3");
        ended("var a; a := 1; a := a div 0; a := 2;");
        due(7, "an error ended it", x.step(1) + " " + x.step(0) + " " + x.state(0) + " " + x.state(8), "2 2 2 2");
    }

    private static String placesOf(String text, int n) {
        started(text);
        StringBuilder b = new StringBuilder();
        for (int i = 0; i < n && x.step(0) == 0; i++) {
            x.step(1);
            b.append(x.state(3)).append(' ');
        }
        return b.append(x.state(0)).append(' ').append(x.state(8)).toString();
    }

    private static void whatIsBegun() {
        due(7, "an if once", placesOf("if false then stop; elseif false then stop; elseif true then print(1); end; print(2);", 9), "0 61 76 3 1");
        due(7, "a while for each test", placesOf("var i; i := 0; while i < 2 do i + := 1; end; print(i);", 20), "7 15 30 15 30 15 45 7 1");
        due(7, "a for once", placesOf("for i in {1, 2} do print(i); print(i); end; print(0);", 20), "0 19 29 19 29 44 6 1");
        due(7, "a for of nothing", placesOf("for i in {} do print(i); end; print(0);", 20), "0 30 2 1");
        due(7, "a for without statements", placesOf("for i in {1, 2, 3} do end; print(0);", 20), "0 27 2 1");
        due(7, "a while without statements", placesOf("while true do end;", 4), "0 0 0 0 4 0");
        due(7, "a while that is false at once", placesOf("while false do stop; end;", 4), "0 1 1");
        due(7, "a call, its statements", placesOf("proc p(); print(1); print(2); end; p(); p();", 20), "35 10 20 40 10 20 6 1");
        due(7, "return, quit, continue", placesOf("proc p(); while true do return; end; end; p(); for i in {1, 2} do continue; end; while true do quit; end;", 20), "42 10 24 47 66 66 81 95 8 1");
        due(7, "stop", placesOf("proc p(); stop; end; p(); print(1);", 20), "21 10 2 1");
        due(7, "where fail comes back to", placesOf("if ok then fail; elseif true then print(1); end; print(2);", 20), "0 11 34 49 4 1");
        due(7, "where fail comes back to an assignment", placesOf("var a; a := ok; if a then fail; end; print(2);", 20), "7 16 26 16 37 5 1");
        due(7, "an if without statements at the end", placesOf("if true then end;", 20), "0 1 1");
        due(7, "an error", placesOf("print(1); print(1 div 0); print(2);", 20), "0 10 2 2");
        due(7, "an error of the next turn", placesOf("for i in [1, 0] | 1 div i > 0 do print(i); end;", 20), "0 33 2 2");
        due(7, "an error behind a call's end", placesOf("var t; proc p(); print(1); end; t(1) := p();", 20), "32 17 2 2");
    }

    // ------------------------------------------------ back

    private static void backs() {
        started(COUNTING);
        x.step(100);
        String state = stateRow() + value("i");
        for (int n : new int[] {-1, 101, Integer.MIN_VALUE, Integer.MAX_VALUE}) {
            refused(8, "back(" + n + ")", "IllegalArgumentException", () -> x.back(n));
        }
        due(8, "none", x.back(0) + stateRow() + value("i"), 100 + state);
        due(8, "all", x.back(100) + " " + stateRow() + value("i"), "0 0 0 0 -1 0 0 1 0 0 0om");
        refused(8, "no more", "IllegalArgumentException", () -> x.back(1));
        x.step(100);
        due(8, "again", stateRow() + value("i"), state);
        ended("print(1); print(2); stop; print(3);");
        due(8, "behind stop", x.back(1) + " " + x.state(8) + " " + x.state(1) + " " + x.step(0), "2 0 4 0");
        due(10, "what was printed is not there", x.back(1) + " " + x.state(1) + " " + tried(() -> x.out(2)) + " " + x.out(1), "1 2 IndexOutOfBoundsException 10");
        x.step(20000);
        due(10, "and there again", output(), "1\n2\n");
        ended("var a; if ok then a := 1; a := 1 div 0; end;");
        due(8, "before an error", x.back(1) + " " + x.state(2) + " " + x.state(5) + " " + value("a"), "2 0 1 1");
        due(8, "before the point", x.back(2) + " " + x.state(5), "0 0");
        started("var a; if ok then a := 1; fail; end; a := 2;");
        x.step(3);
        due(8, "before fail", x.state(5) + " " + x.back(1) + " " + x.state(5) + " " + value("a"), "0 2 1 1");
        due(8, "fail again", x.step(1) + " " + x.state(5) + " " + value("a"), "0 0 om");
    }

    // A run with calls within calls, points that are kept and left, fors, atoms, numbers that are drawn, and output.
    private static final String BUSY = "var k, s, g; func f(n) = if n = 0 then [] else [n] + f(n - 1) end; proc p(n, wr a, rw b); var v; v := f(n); "
        + "for i in [1 .. n], j in {i, n} | i <= j do b := b + [j]; if # b > 20 then b := b(10 .. 20); end; if random(6) = 1 then if ok then v := newat; else v := i; end; end; "
        + "if random(9) = 1 then if k mod 3 > 0 then return [v, i]; end; fail; end; if n > 1 and random(3) = 1 then a := p(n - 1, v, b); end; end; a := v; return b; end; "
        + "k := 0; s := []; if ok then s := [0]; end; while true do k + := 1; g := ok; if g then s := p(1 + random(3), g, s); else print(k, s, newat); if ok then s := []; end; end; "
        + "if random(5) = 1 then succeed; end; if k mod 4 = 0 then for t in {1 .. 20} do if random(2) = 1 then continue; end; s := s + [t]; if # s > 40 then quit; end; end; end; s := s(1 .. if # s > 9 then 9 else # s end); "
        + "for t in [1 .. 12] do if k mod 5 = 0 then succeed; end; if k mod 5 < 4 then quit; end; end; end;";

    private static String busyNow() {
        return stateRow() + value("k") + value("s") + value("g") + x.state(1);
    }

    /** Forth to a place and back to another one is as forth to that one alone. */
    private static void backsOfBusyRuns() {
        int[] places = {0, 1, 7, 40, 100, 250, 256, 300, 511, 512, 513, 600, 640, 700, 767, 768, 800, 900, 1000};
        for (int seed = 1; seed <= 12; seed++) {
            fresh(BUSY);
            x.start(seed);
            x.step(1100);
            int last = x.state(0);
            String[] states = new String[places.length];
            for (int i = 0; i < places.length; i++) {
                x.start(seed);
                x.step(places[i]);
                states[i] = busyNow();
            }
            x.start(seed);
            x.step(1100);
            String end = busyNow();
            for (int i = places.length - 1; i >= 0; i -= 1 + seed % 3) {
                if (places[i] <= last) {
                    x.back(x.state(0) - places[i]);
                    due(8, "back to " + places[i] + " with SEED " + seed, busyNow(), states[i]);
                }
            }
            x.step(1100 - x.state(0));
            due(8, "forth again with SEED " + seed, busyNow(), end);
        }
    }

    /** A new run begins anew: back() goes to no other run's statements. */
    private static void backsOfTheNewestRun() {
        String text = "var a; a := random(1000); while true do a + := random(1000); end;";
        fresh(text);
        for (int seed = 1; seed <= 4; seed++) {
            x.start(seed);
            x.step(300);
            String first = stateRow() + value("a");
            x.step(1500);
            x.start(seed + 10);
            x.step(700);
            String other = stateRow() + value("a");
            x.step(300);
            due(8, "of the newest run", x.back(300) + stateRow() + value("a"), 700 + other);
            x.start(seed);
            x.step(301);
            due(8, "of a run like one before", x.back(1) + stateRow() + value("a"), 300 + first);
            x.step(1000);
            due(8, "once more", x.back(1000) + stateRow() + value("a"), 300 + first);
        }
    }

    private static void backWithViews() {
        started("var s; s := {1}; s := {2}; s := {3};");
        feed("s");
        x.view();
        x.step(3);
        x.round();
        x.back(2);
        due(14, "views stay as they were seen", seen(0, 0) + " " + x.round() + " " + seen(0, 0) + seen(0, 1) + seen(0, 2), "{3} 1 {1}{1}{3}");
    }

    // ------------------------------------------------ value, work

    private static void values() {
        started("var ab, abcdefghijklmnop, s; func f() = 1; proc p(loc); end; ab := [1, \"x\"]; for k in {1} do s := newat; end;");
        x.step(9);
        due(11, "a tuple", value("ab") + value("abcdefghijklmnop") + value("s"), "[1, \"x\"]om#1");
        for (String name : new String[] {"", "a", "abc", "f", "p", "loc", "k", "abcdefghijklmno", "abcdefghijklmnopq", "ab;", "ab ab", "s(1)", "1", "\"ab\"", "om", "$", "AB", "(ab)"}) {
            feed(name);
            refused(11, "no name of a var: " + name, "IllegalArgumentException", () -> x.value());
            due(11, "the tape stays", x.count(0), name.length());
            x.end(0);
        }
        feed("ab");
        due(11, "how many bytes, and the tape is empty then", x.value() + " " + x.count(0), "8 0");
        ended("var a; a := 5; a := a div 0;");
        due(11, "of a run that an error ended", value("a"), "5");
        started("var a; proc p(a); a := 7; stop; end; a := 1; p(2);");
        x.step(4);
        due(11, "the program's own, while a call is open", value("a") + worked("a + 1") + x.state(4), "121");
    }

    private static void works() {
        started("var a; a := {1}; a := 1 div 0;");
        due(12, "before any statement", worked("a = om"), "true");
        x.step(9);
        String state = stateRow();
        due(12, "behind an error", worked("a + {2}"), "{1, 2}");
        for (int error : new int[] {1, 2, 3, 4, 5, 7, 9, 11}) {
            String[] texts = {"", "a + 1", "1 div 0", "{om}", "char(-1)", "[0] * 1000", "", "f(1)", "", "not 1", "", "exists x in [1 .. 400], y in [1 .. 400] | false"};
            if (error != 7) {
                due(12, "error " + error, work(texts[error]) + " " + shown() + " " + x.fault() + " " + x.count(0), (-1 - error) + " {1, 2} 0 0");
            }
        }
        due(12, "a fault at 0", work("$") + " " + shown(), "-100 {1, 2}");
        due(12, "a fault at the tape's length", work("1 + ") + " " + x.fault(), "-104 2");
        due(12, "the run is as it was", stateRow(), state);
        due(17, "no WORK with a fault", x.shape(3), 0);
        started("func f(n) = f(n + 1); print(1);");
        due(12, "error 7", work("f(1)") + " " + x.state(2), "-8 0");
    }

    // ------------------------------------------------ views

    private static void eightViews() {
        started("var a; a := 1;");
        for (int i = 0; i < 8; i++) {
            feed("a = " + i);
            due(13, "view " + i, x.view() + " " + x.count(4), i + " " + (i + 1));
        }
        feed("a +");
        refused(13, "the ninth, with a fault too", "UnsupportedOperationException", () -> x.view());
        due(13, "the tape stays", x.count(0), 3);
        x.end(0);
        due(14, "all changed", x.round(), 8);
        due(15, "the last one", seen(7, 0), "false");
        refused(15, "no view 8", "IndexOutOfBoundsException", () -> x.seen(8, 0));
        x.step(1);
        due(14, "one changed", x.round() + " " + seen(1, 0) + seen(1, 1) + seen(1, 2) + seen(7, 0) + seen(7, 1) + seen(7, 2), "1 truetruefalsefalse{}{}");
        due(14, "none changed", x.round() + " " + seen(1, 0) + seen(1, 1) + seen(1, 2), "0 true{}{}");
        program("var a;");
        refused(15, "none any more", "IndexOutOfBoundsException", () -> x.seen(0, 0));
        feed("a");
        due(13, "the first one again", x.view(), 0);
        refused(15, "no round since the program", "IllegalStateException", () -> x.seen(0, 0));
        x.start(1);
        due(14, "om before any: it did not change", x.round() + " " + seen(0, 0) + seen(0, 1) + seen(0, 2), "0 om{}{}");
    }

    private static void roundOfNone() {
        started("var a;");
        due(14, "no views", x.round(), 0);
        feed("a");
        x.view();
        refused(15, "that round was before the view", "IllegalStateException", () -> x.seen(0, 0));
        refused(15, "that round was before the view", "IllegalStateException", () -> x.seen(0, 2));
    }

    private static String round(String view, String... values) {
        StringBuilder text = new StringBuilder("var v; ");
        for (String value : values) {
            text.append("v := ").append(value).append("; ");
        }
        started(text.toString());
        feed(view);
        x.view();
        StringBuilder b = new StringBuilder();
        for (int i = 0; i < values.length; i++) {
            x.step(1);
            b.append(x.round()).append(' ').append(seen(0, 0)).append(' ').append(seen(0, 1)).append(' ').append(seen(0, 2)).append(i < values.length - 1 ? "; " : "");
        }
        return b.toString();
    }

    private static void whatCameAndWent() {
        due(15, "from om to a set and on", round("v", "{}", "{1, 2}", "{2, 3}", "{2, 3}", "{}", "{}"),
            "1 {} {} om; 1 {1, 2} {1, 2} {}; 1 {2, 3} {3} {1}; 0 {2, 3} {} {}; 1 {} {} {2, 3}; 0 {} {} {}");
        due(15, "others", round("v", "1", "2", "2", "[1]", "{1}", "om", "om", "\"a\""),
            "1 1 1 om; 1 2 2 1; 0 2 {} {}; 1 [1] [1] 2; 1 {1} {1} [1]; 1 om om {1}; 0 om {} {}; 1 \"a\" \"a\" om");
        due(15, "errors are om", round("1 div v", "0", "1", "0", "\"a\""), "0 om {} {}; 1 1 1 om; 1 om om 1; 0 om {} {}");
        due(15, "equal by what they hold", round("{for x in v : x * x}", "{1, 2}", "{-1, -2}", "[1, 2, 2]", "{3}"), "1 {1, 4} {1, 4} om; 0 {1, 4} {} {}; 0 {1, 4} {} {}; 1 {9} {9} {1, 4}");
    }

    private static void viewsAndRuns() {
        started("var a; a := {1}; a := {2};");
        feed("a");
        x.view();
        x.step(1);
        x.round();
        x.start(5);
        due(15, "a new run: the latest round stays", seen(0, 0) + seen(0, 1), "{1}{1}");
        due(14, "and the next one is told from it", x.round() + " " + seen(0, 0) + seen(0, 1) + seen(0, 2), "1 omom{1}");
        feed("a");
        x.view();
        due(15, "an old view, and a new one", seen(0, 0) + " " + tried(() -> x.seen(1, 0)), "om IllegalStateException");
        x.step(1);
        due(14, "both", x.round() + " " + seen(0, 2) + seen(1, 2), "2 omom");
        String before = stateRow();
        x.round();
        due(14, "a round leaves the run as it is", stateRow(), before);
        feed("random(5)");
        due(13, "no random in a view", x.view() + " " + x.fault(), "-1 2");
        feed("1 + newat");
        due(13, "no newat in a view", x.view() + " " + x.fault(), "-5 2");
        due(13, "the tape is empty then", x.count(0) + " " + x.count(4), "0 2");
        due(19, "funcs without random and newat", read("func f() = random(2);") + " " + read("func f(x) = x + newat;"), "2 at 11 2 at 16");
    }

    // ------------------------------------------------ shown, shape, order

    private static void shapes() {
        started("var a;");
        due(17, "before one", x.shape(0) + " " + x.shape(1) + " " + x.shape(2) + " " + x.shape(3), "0 0 0 0");
        work("1 +");
        due(17, "still none", x.shape(0) + " " + x.shape(1) + " " + x.shape(2) + " " + x.shape(3), "0 0 0 0");
        work("1 div 0");
        due(17, "WORK of an error", x.shape(0) + " " + x.shape(1) + " " + x.shape(2) + " " + x.shape(3), "0 0 0 3");
        refused(16, "nothing is shown", "IndexOutOfBoundsException", () -> x.shown(0));
        due(18, "not two", x.order(), 0);
        work("{1, 2}");
        due(17, "a set", x.shape(0) + " " + x.shape(1) + " " + x.shape(2) + " " + x.shape(3), "6 5 2 9");
        due(18, "not two", x.order(), 0);
        value("a");
        due(17, "of the latest value shown; WORK of the latest work()", x.shape(0) + " " + x.shape(1) + " " + x.shape(2) + " " + x.shape(3), "0 1 0 9");
        due(18, "om is less", x.order(), -1);
        work("1 div 0");
        due(18, "an error shows nothing", x.order() + " " + shown(), "-1 om");
        work("\"\"");
        due(18, "greater", x.order() + " " + x.shape(2), "1 0");
        work("\"\"");
        due(18, "equal", x.order(), 0);
        due(16, "bytes of it", x.shown(0) + " " + x.shown(1) + " " + tried(() -> x.shown(2)) + " " + tried(() -> x.shown(-1)) + " " + tried(() -> x.shown(Integer.MIN_VALUE)),
            "34 34 IndexOutOfBoundsException IndexOutOfBoundsException IndexOutOfBoundsException");
        program("var b;");
        due(18, "it stays with a new program", x.order() + " " + x.shape(0) + " " + x.shape(3), "0 4 1");
        x.start(1);
        work("true");
        due(18, "told from the one shown before", x.order(), -1);
    }

    /** What is shown, and the one before it, stay as they are while views are worked. */
    private static void ordersBesideRounds() {
        started("var a; a := {1, 2, 3}; a := {4}; a := 1 div 0;");
        for (String view : new String[] {"a", "# a", "[a, a]", "1 div 0"}) {
            feed(view);
            x.view();
        }
        x.step(1);
        String[] shown = {"om", "true", "5", "\"abc\"", "[1, 2]", "{1}", "{{9}}"};
        int[] kinds = {0, 1, 2, 4, 5, 6, 6};
        for (int i = 0; i < shown.length; i++) {
            for (int k = 0; k < shown.length; k++) {
                work(shown[i]);
                work(shown[k]);
                x.round();
                due(18, shown[k] + " behind " + shown[i] + " and a round", x.order() + " " + x.shape(0) + " " + shown(), Integer.compare(k, i) + " " + kinds[k] + " " + shown[k]);
            }
        }
        x.step(1);
        x.round();
        due(18, "and a step", x.order() + shown(), "0{{9}}");
        due(15, "what went, and what came", seen(0, 2) + seen(0, 1), "{1, 2, 3}{4}");
        due(18, "those two", x.order(), 1);
    }

    private static void counts() {
        x = new House();
        due(19, "none", x.count(0) + " " + x.count(1) + " " + x.count(2) + " " + x.count(3) + " " + x.count(4), "0 0 0 0 0");
        program("u");
        due(19, "none with a fault", x.count(0) + " " + x.count(1) + " " + x.count(2) + " " + x.count(3) + " " + x.count(4), "0 0 0 0 0");
        program("var a, b; func f(c) = {for d in c : d}; proc p(e); var g; g := {for h in e : h}; end; proc q(); end; for i in {}, [j, k] in {} do a := {for l in {} : exists m in {} | m = l}; end;");
        due(19, "of the program itself", x.count(1) + " " + x.count(2) + " " + x.count(3), "3 7 2");
    }

    public static void main(String[] args) {
        nothingThereYet();
        programWithoutRun();
        programs();
        faults();
        steps();
        whatIsBegun();
        backs();
        backsOfBusyRuns();
        backsOfTheNewestRun();
        backWithViews();
        values();
        works();
        eightViews();
        roundOfNone();
        whatCameAndWent();
        viewsAndRuns();
        shapes();
        ordersBesideRounds();
        counts();
        finish();
    }
}

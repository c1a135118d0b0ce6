import com.sun.management.ThreadMXBean;
import java.lang.management.ManagementFactory;
import java.nio.charset.StandardCharsets;

/**
 * What one object makes in its 512 calls stays small, whatever the program on the tape does (LANGUAGE.md, rule 12);
 * and where rows are used up to their ends the answers are as the document says.
 */
public final class RoomTests {
    // The very most; README.md tells what the class makes, which is far below.
    private static final long MOST_ELEMENTS = 3000000;

    private static final ThreadMXBean THREADS = (ThreadMXBean) ManagementFactory.getThreadMXBean();
    private static int wrong = 0;
    private static int checks = 0;
    private static SetHouse x;
    private static int calls;
    private static long made;

    private interface Call {
        long answer();
    }

    private static void due(String what, Object got, Object want) {
        checks++;
        if (!String.valueOf(got).equals(String.valueOf(want))) {
            wrong++;
            System.out.println(what + " answered " + got + ", due is " + want);
        }
    }

    private static long bytesMade() {
        return THREADS.getThreadAllocatedBytes(Thread.currentThread().getId());
    }

    /** A call whose making is counted. */
    private static long counted(Call call) {
        calls++;
        long before = bytesMade();
        long answer = call.answer();
        made += bytesMade() - before;
        return answer;
    }

    private static void fresh() {
        calls = 0;
        long before = bytesMade();
        x = new SetHouse();
        made = bytesMade() - before;
    }

    /** Bytes are four to an int: what is made of bytes counts for less here, but that is not much. */
    private static void small(String what) {
        due(what + ": 512 calls at the most", calls <= 512, true);
        due(what + ": elements made in " + calls + " calls (" + made / 4 + ")", made / 4 <= MOST_ELEMENTS, true);
    }

    private static void feed(String text) {
        byte[] t = text.getBytes(StandardCharsets.ISO_8859_1);
        for (int i = 0; i < t.length; i += 20) {
            int[] a = new int[5];
            for (int k = 0; k < 20; k++) {
                a[k / 4] = a[k / 4] << 8 | (i + k < t.length ? t[i + k] & 255 : 32);
            }
            counted(() -> x.feed(a[0], a[1], a[2], a[3], a[4]));
        }
    }

    private static long program(String text) {
        feed(text);
        return counted(() -> x.program());
    }

    private static void start(long seed) {
        counted(() -> {
            x.start(seed);
            return 0;
        });
    }

    private static long step(int n) {
        return counted(() -> x.step(n));
    }

    private static String states() {
        StringBuilder b = new StringBuilder();
        for (int what = 0; what <= 9; what++) {
            b.append(what == 0 ? "" : " ").append(x.state(what));
        }
        return b.toString();
    }

    // ------------------------------------------------ runs

    /** Many calls with many names that only exps have, up to twenty points, and long runs with much that is left behind. */
    private static void callsAndPoints() {
        StringBuilder iters = new StringBuilder();
        for (int i = 0; i < 59; i++) {
            String name = i < 26 ? "" + (char) ('a' + i) : i < 52 ? "" + (char) ('A' + i - 26) : "a" + (char) ('a' + i - 52);
            iters.append(i == 0 ? "" : ",").append(name).append(" in 0");
        }
        program("var k,m,i;\nproc p(n);if n>0 then p(n-1);else while i<m do i+:=1;if ok then end;end;while true do end;end;\n"
            + "if false then print({for " + iters + ":0});end;end;\nk:=(random(8)-1)*128;m:=random(20);i:=0;\nwhile k>0 do k-:=1;end;\np(49);\n");
        int[] pairs = {76, 276, 16, 532, 187, 788, 68, 1044, 20, 1300, 351, 1556, 72, 1812, 12, 2068, 177, 276, 10, 532,
            229, 788, 62, 1044, 2, 1300, 173, 1556, 66, 1812, 6, 2068, 153, 276, 34, 532, 205, 788, 157, 1044, 38, 1300,
            209, 1556, 42, 1812, 101, 2068, 23, 276};
        for (int i = 0; i < pairs.length; i += 2) {
            start(pairs[i]);
            due("more to do", step(pairs[i + 1]), 0);
        }
        due("fifty calls, twenty points", x.state(4) + " " + x.state(5), "50 20");
        program("var x;\nproc q(n);var a;a:=[true]*999;if n>0 then q(n-1);else x:=0;while x<400 do x+:=1;end;end;end;\nwhile true do q(31);end;\n");
        start(1);
        for (int i = 0; i < 30; i++) {
            step(20000);
        }
        due("600000 statements", x.state(0), 600000);
        long back = counted(() -> x.back(10));
        String before = states();
        step(10);
        due("back by ten", back + " " + x.state(0), "599990 600000");
        counted(() -> x.back(10));
        due("the same again", states(), before);
        small("calls and points");
    }

    /** TOTAL 40000 and WORK 60000 at once, views with sets of a thousand, and all of the output. */
    private static void values() {
        String print = "print(0" + ",[x]*999".repeat(59) + ");";
        program("var x,y;proc q(n);var a;a:=[true]*999;if n>0 then q(n-1);else " + print + "end;end;y:=0;x:=true;while y<9 do y+:=1;q(37);end;");
        for (int i = 0; i < 8; i++) {
            feed("if y=om then{}else{y*1000..y*1000+49" + i + "}end");
            due("a view", counted(() -> x.view()), i);
        }
        start(1);
        for (int i = 0; i < 8; i++) {
            due("more to do", step(115), 0);
            counted(() -> x.round());
            feed("+/[for i in [1..40] : # ([true] * 990)]");
            due("an exp beside it", counted(() -> x.work()), 5);
        }
        due("it ends", step(20000), 1);
        due("no error", x.state(2) + " " + x.state(6), "0 3");
        small("values");
    }

    /** Twenty funcs' rows of a thousand upon the stack, formers within them, beneath fifty calls with open fors. */
    private static void stack() {
        StringBuilder iters = new StringBuilder();
        for (int i = 0; i < 58; i++) {
            iters.append(i == 0 ? "" : ",").append((char) ('a' + i % 26)).append(i / 26).append(" in u");
        }
        String nest = "true";
        for (int i = 0; i < 15; i++) {
            nest = "[for a in t:a or " + nest + "]=0";
        }
        String row = "[z" + ",z".repeat(997) + ",";
        program("var t,u,z;func f(n)=" + row.repeat(4) + "(n=0 and " + nest + ")or f(n-1)=0" + "]".repeat(4)
            + ";proc q(n);if n>0 then for " + iters + " do q(n-1);end;else print(f(11));end;end;t:=[true]*997+[false];u:=[0];q(48);");
        start(1);
        due("funcs to their end", step(20000) + " " + x.state(2) + " " + x.state(4), "2 7 49");
        small("stack");
    }

    /** Texts as long as 512 calls can feed. */
    private static void texts() {
        program("var x;proc p(wr a,wr b,wr c,wr d,wr e,wr f,wr g,wr h);h:=1;end;" + "p(x,x,x,x,x,x,x,x);".repeat(398));
        start(1);
        due("calls with eight targets", step(20000) + " " + x.state(0), "1 796");
        program("var x;[x" + ",x".repeat(1080) + "]:=[1];");
        start(1);
        due("holes", step(20000) + " " + x.state(2), "1 0");
        small("texts");
        fresh();
        due("a part of many signs", program("var x;proc p(rw y);y:=5;end;x:=[1];p(x(1" + "+0".repeat(5000) + "));print(x);"), 4);
        start(1);
        step(20000);
        due("it is written", x.state(1) + " " + (char) x.out(1), "4 5");
        small("a long part");
        fresh();
        due("many holes", program("var x;x:=[1];[x" + ",x".repeat(5080) + "]:=x;"), 2);
        start(1);
        due("om beyond the end", step(20000) + " " + x.state(6), "1 1");
        small("many holes");
    }

    // ------------------------------------------------ the most that values can take

    // One of size 991 and height 30, of tuples of one member, so that its cells take nearly twice its size.
    private static final String DEEP = "func g(x)=[[[[[[[[[[[[[[x]]]]]]]]]]]]]];proc m();return[for i in[1..33]:g(g([newat]))];end;";
    private static final int DEEP_SIZE = 991;
    // One of size 999, all members of which have cells of their own; its WORK is 999, too.
    private static final String RANGE = "{a..b}";
    private static final String BOUNDS = "a:=200000000;b:=a+498;";
    private static final String EIGHT = "func f(a,b,c,d,e,g,h,i)=a=i;";

    private static String names(int n) {
        StringBuilder b = new StringBuilder();
        for (int i = 0; i < n; i++) {
            b.append(",v").append(i);
        }
        return b.toString();
    }

    /** Variables get new values, after they have been om, so that TOTAL has room for them. */
    private static String made(int from, int to) {
        StringBuilder b = new StringBuilder();
        for (int i = from; i < to; i++) {
            b.append("v").append(i).append(":=om;v").append(i).append(":=m();");
        }
        return b.toString();
    }

    private static String ranges(int n) {
        return RANGE + ("," + RANGE).repeat(n - 1);
    }

    /** An exp, false, that has 59 sets at once: seven in each of eight funcs within each other, three more in the innermost. */
    private static String manyAtOnce() {
        String exp = "f(" + ranges(3) + ",1,1,1,1,1)";
        for (int i = 0; i < 8; i++) {
            exp = "f(" + ranges(7) + "," + exp + ")";
        }
        return exp;
    }

    private static long show(String name) {
        feed(name);
        x.end(name.length());
        return counted(() -> x.value());
    }

    private static long view(String exp) {
        feed(exp);
        return counted(() -> x.view());
    }

    private static long work(String exp) {
        feed(exp);
        return counted(() -> x.work());
    }

    private static long back(int n) {
        return counted(() -> x.back(n));
    }

    /** What a statement that WORK lets through, and the next one that it does not, answer. */
    private static void lastPrints(String where, int total) {
        due(where + ": TOTAL before it", x.state(6), total);
        due(where + ": sixty sets printed", step(1), 0);
        due(where + ": its error, WORK, TOTAL", x.state(2) + " " + x.state(9) + " " + x.state(6), "0 59940 " + total);
        int begun = x.state(0);
        due(where + ": one more set", step(1), 2);
        due(where + ": its error", x.state(2) + " " + x.state(9), "11 60939");
        due(where + ": back to before", back(1), begun);
        due(where + ": again", step(1), 2);
        due(where + ": the same error", x.state(2), 11);
    }

    private static String prints() {
        return "print(" + ranges(60) + ");print(" + ranges(61) + ");";
    }

    /** Forty variables, sets in views that have changed, and two values shown, none of which share anything. */
    private static void besideViews() {
        program("var a,b" + names(40) + ";" + EIGHT + DEEP + BOUNDS + made(0, 40) + made(0, 8) + made(0, 10) + prints());
        start(1);
        step(2 + 3 * 40);
        due("a view with much at once", view(manyAtOnce()), 0);
        for (int v = 1; v < 8; v++) {
            due("a view of a set", view("{for y in v" + v + ":y}"), v);
        }
        due("all are new", counted(() -> x.round()), 8);
        step(3 * 8);
        due("seven are others now", counted(() -> x.round()), 7);
        due("values shown", show("v8") > DEEP_SIZE && show("v9") > DEEP_SIZE, true);
        step(3 * 10);
        int total = 2 * 2 + 40 * DEEP_SIZE;
        lastPrints("beside views", total);
        due("an exp with much at once", work(manyAtOnce()), 5);
        due("its WORK", x.shape(3), 59 * 999 + 5 * 2 + 9 * 2);
        due("it is less than the value shown before it", x.order(), -1);
        due("seven have changed once more", counted(() -> x.round()), 7);
        due("a view with much at once is as it was", counted(() -> x.seen(0, 0)), 5);
        for (int v = 1; v < 8; v++) {
            seenAnew(v);
        }
        small("beside views");
    }

    /** All of a view's members have changed: those that came have newer atoms than those that went. */
    private static void seenAnew(int view) {
        counted(() -> x.seen(view, 0));
        due("its size", x.shape(1), DEEP_SIZE);
        counted(() -> x.seen(view, 1));
        due("all came", x.order(), 0);
        counted(() -> x.seen(view, 2));
        due("as many went", x.shape(1) + " " + x.order(), DEEP_SIZE + " -1");
    }

    /** The same number of values, in points, which are gone back to. */
    private static void inPoints() {
        StringBuilder ways = new StringBuilder();
        for (int i = 0; i < 2; i++) {
            ways.append("o:=ok;if o then v0:=om;").append(made(0, 13)).append("else print(v0(1)=w,#v12);fail;end;");
        }
        program("var a,b,o,w" + names(13) + ";" + DEEP + BOUNDS + made(0, 13) + "w:=v0(1);" + ways + "if w=0 then stop;end;print(" + ranges(60) + ");fail;");
        start(1);
        int before = 3 + 3 * 13;
        int way = 2 + 1 + 3 * 13;
        due("to the print", step(before + 2 * way + 1), 0);
        int total = x.state(6);
        due("TOTAL of three times all", total > 38600 && total <= 40000, true);
        due("sixty sets printed", step(1) + " " + x.state(2) + " " + x.state(9), "0 0 59940");
        due("back by some", back(20), before + 2 * way + 2 - 20);
        due("and on again", step(20) + " " + x.state(2) + " " + x.state(6), "0 0 " + total);
        int printed = x.state(1);
        due("both points, then none", step(20000) + " " + x.state(2), "2 10");
        due("what was in the points", x.state(1) - printed, "false 33\ntrue 33\n".length());
        small("in points");
    }

    /** The same in open calls, each with a param that a target waits for. */
    private static void inCalls() {
        program("var a,b,r;" + DEEP + "proc q(n,wr y);var l;l:=m();if n>0 then q(n-1,y);else " + prints() + "end;y:=l;end;" + BOUNDS + "q(38,r);");
        start(1);
        due("to the print", step(3 + 39 * 4 - 1), 0);
        due("open calls", x.state(4), 39);
        lastPrints("in calls", x.state(6));
        small("in calls");
    }

    /** Long strings, rows of long wholes, maps of strings: all are there behind statements that want all of WORK. */
    private static void ofAllKinds() {
        String kinds = "swp";
        StringBuilder make = new StringBuilder();
        StringBuilder look = new StringBuilder();
        for (int i = 0; i < 40; i++) {
            String value = kinds.charAt(i % 3) + "(" + i + ")";
            make.append("v").append(i).append(":=").append(value).append(";");
            look.append("assert v").append(i).append("=").append(value).append(";");
        }
        program("var a,b" + names(40) + ";func s(k)=(\"abcd\"+str(100+k))*570;func w(k)=[for i in[1..29]:2**1020+i*k];"
            + "func p(k)={for i in[1..120]:[i+k,\"abcdefgh\"*2]};" + BOUNDS + make + "print(" + ranges(60) + ");" + look + prints());
        start(1);
        due("to the first print", step(42), 0);
        int total = x.state(6);
        due("TOTAL of all kinds", total > 38000 && total <= 40000, true);
        due("all are as they were", step(41) + " " + x.state(2) + " " + x.state(0), "0 0 83");
        lastPrints("of all kinds", total);
        small("of all kinds");
    }

    public static void main(String[] args) {
        fresh();
        program("var x;x:=1;");
        fresh();
        callsAndPoints();
        fresh();
        values();
        fresh();
        stack();
        fresh();
        texts();
        fresh();
        besideViews();
        fresh();
        inPoints();
        fresh();
        inCalls();
        fresh();
        ofAllKinds();
        System.out.println(checks + " checks, " + wrong + " wrong");
        if (wrong != 0) {
            System.exit(1);
        }
    }
}

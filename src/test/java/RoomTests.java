import com.sun.management.ThreadMXBean;
import java.lang.management.ManagementFactory;
import java.nio.charset.StandardCharsets;

/**
 * What one object makes in its 512 calls stays small, whatever the program on the tape does (LANGUAGE.md, rule 12);
 * and where rows are used up to their ends the answers are as the document says.
 */
public final class RoomTests {
    // The very most; README.md tells what the class makes, which is far below.
    private static final long MOST_ELEMENTS = 3000000;

    private static final ThreadMXBean THREADS = (ThreadMXBean) ManagementFactory.getThreadMXBean();
    private static int wrong = 0;
    private static int checks = 0;
    private static SetHouse x;
    private static int calls;
    private static long made;

    private interface Call {
        long answer();
    }

    private static void due(String what, Object got, Object want) {
        checks++;
        if (!String.valueOf(got).equals(String.valueOf(want))) {
            wrong++;
            System.out.println(what + " answered " + got + ", due is " + want);
        }
    }

    private static long bytesMade() {
        return THREADS.getThreadAllocatedBytes(Thread.currentThread().getId());
    }

    /** A call whose making is counted. */
    private static long counted(Call call) {
        calls++;
        long before = bytesMade();
        long answer = call.answer();
        made += bytesMade() - before;
        return answer;
    }

    private static void fresh() {
        calls = 0;
        long before = bytesMade();
        x = new SetHouse();
        made = bytesMade() - before;
    }

    /** Bytes are four to an int: what is made of bytes counts for less here, but that is not much. */
    private static void small(String what) {
        due(what + ": 512 calls at the most", calls <= 512, true);
        due(what + ": elements made in " + calls + " calls (" + made / 4 + ")", made / 4 <= MOST_ELEMENTS, true);
    }

    private static void feed(String text) {
        byte[] t = text.getBytes(StandardCharsets.ISO_8859_1);
        for (int i = 0; i < t.length; i += 20) {
            int[] a = new int[5];
            for (int k = 0; k < 20; k++) {
                a[k / 4] = a[k / 4] << 8 | (i + k < t.length ? t[i + k] & 255 : 32);
            }
            counted(() -> x.feed(a[0], a[1], a[2], a[3], a[4]));
        }
    }

    private static long program(String text) {
        feed(text);
        return counted(() -> x.program());
    }

    private static void start(long seed) {
        counted(() -> {
            x.start(seed);
            return 0;
        });
    }

    private static long step(int n) {
        return counted(() -> x.step(n));
    }

    private static String states() {
        StringBuilder b = new StringBuilder();
        for (int what = 0; what <= 9; what++) {
            b.append(what == 0 ? "" : " ").append(x.state(what));
        }
        return b.toString();
    }

    // ------------------------------------------------ runs

    /** Many calls with many names that only exps have, up to twenty points, and long runs with much that is left behind. */
    private static void callsAndPoints() {
        StringBuilder iters = new StringBuilder();
        for (int i = 0; i < 59; i++) {
            String name = i < 26 ? "" + (char) ('a' + i) : i < 52 ? "" + (char) ('A' + i - 26) : "a" + (char) ('a' + i - 52);
            iters.append(i == 0 ? "" : ",").append(name).append(" in 0");
        }
        program("var k,m,i;\nproc p(n);if n>0 then p(n-1);else while i<m do i+:=1;if ok then end;end;while true do end;end;\n"
            + "if false then print({for " + iters + ":0});end;end;\nk:=(random(8)-1)*128;m:=random(20);i:=0;\nwhile k>0 do k-:=1;end;\np(49);\n");
        int[] pairs = {76, 276, 16, 532, 187, 788, 68, 1044, 20, 1300, 351, 1556, 72, 1812, 12, 2068, 177, 276, 10, 532,
            229, 788, 62, 1044, 2, 1300, 173, 1556, 66, 1812, 6, 2068, 153, 276, 34, 532, 205, 788, 157, 1044, 38, 1300,
            209, 1556, 42, 1812, 101, 2068, 23, 276};
        for (int i = 0; i < pairs.length; i += 2) {
            start(pairs[i]);
            due("more to do", step(pairs[i + 1]), 0);
        }
        due("fifty calls, twenty points", x.state(4) + " " + x.state(5), "50 20");
        program("var x;\nproc q(n);var a;a:=[true]*999;if n>0 then q(n-1);else x:=0;while x<400 do x+:=1;end;end;end;\nwhile true do q(31);end;\n");
        start(1);
        for (int i = 0; i < 30; i++) {
            step(20000);
        }
        due("600000 statements", x.state(0), 600000);
        long back = counted(() -> x.back(10));
        String before = states();
        step(10);
        due("back by ten", back + " " + x.state(0), "599990 600000");
        counted(() -> x.back(10));
        due("the same again", states(), before);
        small("calls and points");
    }

    /** TOTAL 40000 and WORK 60000 at once, views with sets of a thousand, and all of the output. */
    private static void values() {
        String print = "print(0" + ",[x]*999".repeat(59) + ");";
        program("var x,y;proc q(n);var a;a:=[true]*999;if n>0 then q(n-1);else " + print + "end;end;y:=0;x:=true;while y<9 do y+:=1;q(37);end;");
        for (int i = 0; i < 8; i++) {
            feed("if y=om then{}else{y*1000..y*1000+49" + i + "}end");
            due("a view", counted(() -> x.view()), i);
        }
        start(1);
        for (int i = 0; i < 8; i++) {
            due("more to do", step(115), 0);
            counted(() -> x.round());
            feed("+/[for i in [1..40] : # ([true] * 990)]");
            due("an exp beside it", counted(() -> x.work()), 5);
        }
        due("it ends", step(20000), 1);
        due("no error", x.state(2) + " " + x.state(6), "0 3");
        small("values");
    }

    /** Twenty funcs' rows of a thousand upon the stack, formers within them, beneath fifty calls with open fors. */
    private static void stack() {
        StringBuilder iters = new StringBuilder();
        for (int i = 0; i < 58; i++) {
            iters.append(i == 0 ? "" : ",").append((char) ('a' + i % 26)).append(i / 26).append(" in u");
        }
        String nest = "true";
        for (int i = 0; i < 15; i++) {
            nest = "[for a in t:a or " + nest + "]=0";
        }
        String row = "[z" + ",z".repeat(997) + ",";
        program("var t,u,z;func f(n)=" + row.repeat(4) + "(n=0 and " + nest + ")or f(n-1)=0" + "]".repeat(4)
            + ";proc q(n);if n>0 then for " + iters + " do q(n-1);end;else print(f(11));end;end;t:=[true]*997+[false];u:=[0];q(48);");
        start(1);
        due("funcs to their end", step(20000) + " " + x.state(2) + " " + x.state(4), "2 7 49");
        small("stack");
    }

    /** Texts as long as 512 calls can feed. */
    private static void texts() {
        program("var x;proc p(wr a,wr b,wr c,wr d,wr e,wr f,wr g,wr h);h:=1;end;" + "p(x,x,x,x,x,x,x,x);".repeat(398));
        start(1);
        due("calls with eight targets", step(20000) + " " + x.state(0), "1 796");
        program("var x;[x" + ",x".repeat(1080) + "]:=[1];");
        start(1);
        due("holes", step(20000) + " " + x.state(2), "1 0");
        small("texts");
        fresh();
        due("a part of many signs", program("var x;proc p(rw y);y:=5;end;x:=[1];p(x(1" + "+0".repeat(5000) + "));print(x);"), 4);
        start(1);
        step(20000);
        due("it is written", x.state(1) + " " + (char) x.out(1), "4 5");
        small("a long part");
        fresh();
        due("many holes", program("var x;x:=[1];[x" + ",x".repeat(5080) + "]:=x;"), 2);
        start(1);
        due("om beyond the end", step(20000) + " " + x.state(6), "1 1");
        small("many holes");
    }

    public static void main(String[] args) {
        fresh();
        program("var x;x:=1;");
        fresh();
        callsAndPoints();
        fresh();
        values();
        fresh();
        stack();
        fresh();
        texts();
        System.out.println(checks + " checks, " + wrong + " wrong");
        if (wrong != 0) {
            System.exit(1);
        }
    }
}

import java.util.Arrays;

/** Promises 26 and 27: delta, apply. */
public final class DeltaTest {
    private static final byte[] FIRST = Check.octets("abcdefgh");
    private static final byte[] ROUND = round(FIRST);

    public static void main(String[] args) {
        deltaRefusals();
        applyRefusals();
        heads();
        copies();
        others();
        room();
        sevens();
        rounds();
        kinds();
        numbersOfNone();
        more();
        beyond();
        fewer();
        octetsLack();
        comesBack();
        Check.end("DeltaTest");
    }

    private static byte[] round(byte[] text) {
        return Check.low(Forms.round(text), 4);
    }

    private static void deltaRefusals() {
        Check.says("A new STREAM: the DELTA from a STREAM to another one. -1 there is none, -4 no number is free, "
                + "or it would have more than 12000 octets.");
        PackingHouse x = new PackingHouse();
        int a = Check.streamOf(x, Check.octets("abc"));
        for (int none : new int[] {0, -1, 2, 12, 13, Integer.MIN_VALUE, Integer.MAX_VALUE}) {
            Check.due("no first: " + none, x.delta(none, a), -1);
            Check.due("no other: " + none, x.delta(a, none), -1);
            Check.due("neither: " + none, x.delta(none, none), -1);
        }
        for (int i = 2; i <= 12; i++) {
            Check.due("delta", x.delta(a, a), i);
        }
        Check.due("no number", x.delta(a, a), -4);
        Check.due("none comes first", x.delta(a, 13), -1);
        Check.due("none comes first", x.delta(0, a), -1);
        x.drop(6);
        Check.due("the one that is free", x.delta(a, a), 6);
        x.cut(0);
        Check.due("the TRAY has no part in it", Check.stream(x, 6), Check.octets(3, round(Check.octets("abc")), 0, 3, "abc"));
    }

    private static void applyRefusals() {
        Check.says("The TRAY as a DELTA from a STREAM: the other one as a new STREAM, or a FAULT. -1 there is "
                + "none, -4 no number is free.");
        PackingHouse x = new PackingHouse();
        int a = Check.streamOf(x, FIRST);
        Check.tray(x, Check.octets(0, ROUND));
        for (int none : new int[] {0, -1, 2, 12, 13, Integer.MIN_VALUE, Integer.MAX_VALUE}) {
            Check.due("no STREAM: " + none, x.apply(none), -1);
        }
        for (int i = 2; i <= 12; i++) {
            Check.due("apply", x.apply(a), i);
        }
        Check.due("no number", x.apply(a), -4);
        Check.due("none comes first", x.apply(13), -1);
        x.cut(0);
        Check.due("no number comes before a FAULT", x.apply(a), -4);
        Check.due("none is told", x.fault(0), 0);
        x.drop(9);
        Check.due("a FAULT", x.apply(a), -11);
        Check.due("no STREAM is made", x.length(9), -1);
    }

    private static void made(String what, byte[] first, byte[] other, byte[] want) {
        PackingHouse x = new PackingHouse();
        int a = Check.streamOf(x, first);
        int b = Check.streamOf(x, other);
        int d = x.delta(a, b);
        Check.due(what, Check.stream(x, d), want);
        x.load(d);
        int back = x.apply(a);
        Check.due(what + ": apply", back, 4);
        Check.due(what + ": the same", x.differ(b, back), -1);
        Check.due(what + ": RULE", x.fault(0), 0);
        Check.due(what + ": PLACE", x.fault(1), 0);
        Check.due(what + ": out", x.fault(2), other.length);
    }

    private static void heads() {
        Check.says("DELTAS: from one text to another: how many octets the other has (SEVENS), and ROUND of the "
                + "first (4 LOW FIRST)");
        made("both are empty", Forms.NONE, Forms.NONE, Check.octets(0, 0, 0, 0, 0));
        made("the other is empty", FIRST, Forms.NONE, Check.octets(0, ROUND));
        made("the first is empty", Forms.NONE, TEXT3, Check.octets(3, 0, 0, 0, 0, 0, 3, TEXT3));
        made("127", FIRST, Forms.ramp(100, 127), Check.octets(127, ROUND, 0, 127, Forms.ramp(100, 127)));
        made("128", FIRST, Forms.ramp(100, 128), Check.octets(128, 1, ROUND, 0, 128, Forms.ramp(100, 128)));
    }

    private static final byte[] TEXT3 = Check.octets("xyz");

    private static void copies() {
        Check.says("then, from the left of the other: where there is one, the LONGEST of what is alike from there "
                + "on in the other and from some place on in the first (8 and more octets; of the same length the "
                + "least place): 1, its length, its place (SEVENS)");
        byte[] first = Check.octets("0123456789abcdefghij");
        byte[] round = round(first);
        made("itself", first, first, Check.octets(20, round, 1, 20, 0));
        made("eight", first, Check.octets("23456789"), Check.octets(8, round, 1, 8, 2));
        made("eight at the end", first, Check.octets("cdefghij"), Check.octets(8, round, 1, 8, 12));
        made("seven are too few", first, Check.octets("2345678"), Check.octets(7, round, 0, 7, "2345678"));
        made("seven at the end", first, Check.octets("defghij"), Check.octets(7, round, 0, 7, "defghij"));
        made("nine", first, Check.octets("23456789a"), Check.octets(9, round, 1, 9, 2));
        made("the first has eight", FIRST, FIRST, Check.octets(8, ROUND, 1, 8, 0));
        made("the first has seven", Check.octets("abcdefg"), FIRST,
                Check.octets(8, round(Check.octets("abcdefg")), 0, 8, FIRST));
        byte[] twice = Check.octets("ABCDEFGH-ABCDEFGHI-ABCDEFGHI");
        made("the longest, of these the least place", twice, Check.octets("ABCDEFGHI"),
                Check.octets(9, round(twice), 1, 9, 9));
        made("eight of it: the least place", twice, Check.octets("ABCDEFGH"), Check.octets(8, round(twice), 1, 8, 0));
        made("twice", first, Check.octets(first, first), Check.octets(40, round, 1, 20, 0, 1, 20, 0));
        byte[] far = Check.octets(Check.times('.', 300), "ABCDEFGH");
        made("a place in SEVENS", far, Check.octets("ABCDEFGH"), Check.octets(8, round(far), 1, 8, 172, 2));
        byte[] even = Check.times('.', 200);
        made("a length in SEVENS", even, Check.times('.', 128), Check.octets(128, 1, round(even), 1, 128, 1, 0));
        made("127", even, Check.times('.', 127), Check.octets(127, round(even), 1, 127, 0));
        made("longer than the first", even, Check.times('.', 208),
                Check.octets(208, 1, round(even), 1, 200, 1, 0, 1, 8, 0));
        made("seven longer than the first", even, Check.times('.', 207),
                Check.octets(207, 1, round(even), 1, 200, 1, 0, 0, 7, Check.times('.', 7)));
    }

    private static void others() {
        Check.says("else octets up to the next place where there is one, at most 200 at once: 0, how many (an "
                + "octet), and these. Ends with the octets.");
        byte[] first = Check.octets("0123456789abcdefghij");
        byte[] round = round(first);
        made("between", first, Check.octets("xx01234567yy89abcdefghij"),
                Check.octets(24, round, 0, 2, "xx", 1, 8, 0, 0, 2, "yy", 1, 12, 8));
        byte[] dots = Check.times('.', 16);
        for (int n : new int[] {1, 199, 200, 201, 399, 400, 401}) {
            byte[] other = new byte[n];
            for (int i = 0; i < n; i++) {
                other[i] = (byte) (i % 40);
            }
            byte[] want = Check.octets(Forms.sevens(n), round(dots));
            for (int from = 0; from < n; from += 200) {
                int to = Math.min(n, from + 200);
                want = Check.octets(want, 0, to - from, Arrays.copyOfRange(other, from, to));
            }
            made(n + " octets", dots, other, want);
        }
        for (int n : new int[] {199, 200, 201}) {
            byte[] other = Check.octets(Check.times('x', n), dots);
            byte[] literals = n < 201 ? Check.octets(0, n, Check.times('x', n))
                    : Check.octets(0, 200, Check.times('x', 200), 0, 1, "x");
            made(n + " and a copy", dots, other, Check.octets(Forms.sevens(n + 16), round(dots), literals, 1, 16, 0));
        }
    }

    private static void room() {
        Check.says("-4 no number is free, or it would have more than 12000 octets.");
        // two octets more for each 200: 11874 others are 2 + 4 + 11874 + 2 * 60 = 12000
        PackingHouse x = new PackingHouse();
        int none = Check.streamOf(x, Forms.NONE);
        int fits = Check.longStream(x, 1, 11874);
        int more = Check.longStream(x, 1, 11875);
        int most = Check.longStream(x, 1, 12000);
        Check.due("12000", x.delta(none, fits), 5);
        Check.due("that has", x.length(5), 12000);
        Check.due("12001", x.delta(none, more), -4);
        Check.due("12126", x.delta(none, most), -4);
        Check.due("no STREAM is made", x.length(6), -1);
        Check.due("from itself", x.delta(most, most), 6);
        Check.due("that is short", Check.stream(x, 6), Check.octets(Forms.sevens(12000), round(Check.times(1, 12000)), 1,
                Forms.sevens(12000), 0));
        x.load(6);
        Check.due("12000 come out", x.differ(most, x.apply(most)), -1);
    }

    private static void faults(String what, byte[] delta, int rule, int place, int out) {
        PackingHouse x = new PackingHouse();
        int a = Check.streamOf(x, FIRST);
        Check.tray(x, delta);
        Check.due(what + ": apply", x.apply(a), -10 - rule);
        Check.due(what + ": RULE", x.fault(0), rule);
        Check.due(what + ": PLACE", x.fault(1), place);
        Check.due(what + ": out", x.fault(2), out);
        Check.due(what + ": no STREAM", x.length(2), -1);
    }

    private static void applies(String what, byte[] delta, byte[] other) {
        PackingHouse x = new PackingHouse();
        int a = Check.streamOf(x, FIRST);
        Check.tray(x, delta);
        Check.due(what + ": apply", x.apply(a), 2);
        Check.due(what, Check.stream(x, 2), other);
        Check.due(what + ": RULE", x.fault(0), 0);
        Check.due(what + ": out", x.fault(2), other.length);
    }

    private static void sevens() {
        Check.says("RULES: 51 (as in COPIES); 13 (as soon as it is told)");
        faults("16", Check.octets(128, 128, 128, 128, 16), 51, 4, 0);
        faults("15", Check.octets(128, 128, 128, 128, 15), 13, 4, 0);
        applies("0 in five", Check.octets(128, 128, 128, 128, 0, ROUND), Forms.NONE);
        faults("12001", Forms.sevens(12001), 13, 1, 0);
        faults("12000", Check.octets(Forms.sevens(12000), ROUND), 135, 6, 0);
        faults("of a length", Check.octets(3, ROUND, 1, 255, 255, 255, 255, 16), 51, 10, 0);
        faults("of a length, 15", Check.octets(3, ROUND, 1, 255, 255, 255, 255, 15), 134, 10, 0);
        faults("of a place", Check.octets(3, ROUND, 1, 3, 255, 255, 255, 255, 16), 51, 11, 0);
        faults("of a place, 15", Check.octets(3, ROUND, 1, 3, 255, 255, 255, 255, 15), 133, 11, 0);
        applies("a length and a place in five", Check.octets(3, ROUND, 1, 131, 128, 128, 128, 0, 133, 128, 128, 128, 0),
                Check.octets("fgh"));
    }

    private static void rounds() {
        Check.says("131 ROUND is not that of the text");
        for (int i = 0; i < 4; i++) {
            faults("octet " + i, Check.octets(3, Forms.with(ROUND, i, ROUND[i] + 1)), 131, 4, 0);
        }
        faults("with octets behind it", Check.octets(3, 0, 0, 0, 0, 9, 9), 131, 4, 0);
        PackingHouse x = new PackingHouse();
        int none = Check.streamOf(x, Forms.NONE);
        Check.tray(x, Check.octets(0, 0, 0, 0, 0));
        Check.due("of an empty text", x.apply(none), 2);
    }

    private static void kinds() {
        Check.says("132 neither 0 nor 1");
        for (int how : new int[] {2, 128, 255}) {
            faults("it is " + how, Check.octets(3, ROUND, how), 132, 5, 0);
        }
        faults("behind others", Check.octets(3, ROUND, 0, 1, "x", 2), 132, 8, 1);
        applies("0 and 1", Check.octets(3, ROUND, 0, 1, "x", 1, 2, 0), Check.octets("xab"));
    }

    private static void numbersOfNone() {
        Check.says("133 a length, or number, of 0");
        faults("0 octets", Check.octets(3, ROUND, 0, 0), 133, 6, 0);
        faults("a length of 0", Check.octets(3, ROUND, 1, 0), 133, 6, 0);
        faults("a length of 0 in two", Check.octets(3, ROUND, 1, 128, 0), 133, 7, 0);
        faults("nothing is left", Check.octets(0, ROUND, 0, 0), 133, 6, 0);
        applies("1 octet", Check.octets(1, ROUND, 0, 1, "x"), Check.octets("x"));
        applies("a length of 1", Check.octets(1, ROUND, 1, 1, 7), Check.octets("h"));
    }

    private static void more() {
        Check.says("134 more than was told (as soon as how many is read)");
        faults("octets", Check.octets(3, ROUND, 0, 4), 134, 6, 0);
        faults("255 octets", Check.octets(3, ROUND, 0, 255), 134, 6, 0);
        applies("as many octets", Check.octets(3, ROUND, 0, 3, "xyz"), Check.octets("xyz"));
        faults("a copy, before its place", Check.octets(3, ROUND, 1, 4), 134, 6, 0);
        applies("as long a copy", Check.octets(3, ROUND, 1, 3, 0), Check.octets("abc"));
        faults("all is there", Check.octets(1, ROUND, 0, 1, "a", 1, 1), 134, 9, 1);
        faults("none was told", Check.octets(0, ROUND, 0, 1, "a"), 134, 6, 0);
        byte[] many = Check.times('y', 255);
        applies("255 at once", Check.octets(Forms.sevens(255), ROUND, 0, 255, many), many);
    }

    private static void beyond() {
        Check.says("133 a length and place beyond the first text");
        applies("up to its end", Check.octets(3, ROUND, 1, 3, 5), Check.octets("fgh"));
        faults("one beyond", Check.octets(3, ROUND, 1, 3, 6), 133, 7, 0);
        faults("at its end", Check.octets(3, ROUND, 1, 1, 8), 133, 7, 0);
        applies("all of it", Check.octets(8, ROUND, 1, 8, 0), FIRST);
        faults("longer than it", Check.octets(9, ROUND, 1, 9, 0), 133, 7, 0);
        faults("2^32 - 1", Check.octets(3, ROUND, 1, 3, 255, 255, 255, 255, 15), 133, 11, 0);
        faults("behind others", Check.octets(4, ROUND, 0, 1, "x", 1, 3, 6), 133, 10, 1);
    }

    private static void fewer() {
        Check.says("135 fewer (PLACE: how many there are).");
        faults("none", Check.octets(3, ROUND), 135, 5, 0);
        faults("one lacks", Check.octets(3, ROUND, 0, 2, "ab"), 135, 9, 2);
        faults("one lacks behind a copy", Check.octets(3, ROUND, 1, 2, 0), 135, 8, 2);
        applies("none lacks", Check.octets(3, ROUND, 1, 2, 0, 0, 1, "z"), Check.octets("abz"));
    }

    private static void octetsLack() {
        Check.says("RULES of all: 1 octets lack");
        byte[] whole = Check.octets(Forms.sevens(300), ROUND, 1, 3, 0, 0, 3, "xyz");
        int[] rule = {1, 1, 1, 1, 1, 1, 135, 1, 1, 135, 1, 1, 1, 1};
        int[] out = {0, 0, 0, 0, 0, 0, 0, 0, 0, 3, 3, 3, 4, 5};
        for (int n = 0; n < rule.length; n++) {
            faults(n + " octets", Arrays.copyOf(whole, n), rule[n], n, out[n]);
        }
    }

    private static void comesBack() {
        Check.says("deltas between two texts");
        for (byte[] first : Check.someTexts()) {
            for (byte[] other : Check.someTexts()) {
                PackingHouse x = new PackingHouse();
                int a = first.length > 5900 ? Check.longStream(x, first[0] & 255, 6000) : Check.streamOf(x, first);
                int b = other.length > 5900 ? Check.longStream(x, other[0] & 255, 6000) : Check.streamOf(x, other);
                int d = x.delta(a, b);
                Check.due("delta", d, 3);
                if (x.load(d) >= 0) {
                    Check.due("apply", x.apply(a), 4);
                    Check.due("the same", x.differ(b, 4), -1);
                }
            }
        }
    }
}

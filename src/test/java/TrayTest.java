import java.util.zip.Adler32;

/** Promises 1 to 7: a new object, feed, fill, cut, alter, octet, sum; and the SUMS. */
public final class TrayTest {
    public static void main(String[] args) {
        newObject();
        manyCalls();
        feed();
        feedEdges();
        trayIsFull();
        fill();
        fillEdges();
        fillKinds();
        cut();
        alter();
        octet();
        sumKinds();
        adler();
        roundAndTurned();
        mixed();
        Check.end("TrayTest");
    }

    private static void newObject() {
        Check.says("`PackingHouse()`: An empty house.");
        PackingHouse x = new PackingHouse();
        Check.due("cut(0)", x.cut(0), 0);
        Check.due("cut(1)", x.cut(1), -2);
        Check.due("octet(0)", x.octet(0), -1);
        for (int i = 0; i <= 13; i++) {
            Check.due("length", x.length(i), -1);
        }
        for (int what = 0; what < 3; what++) {
            Check.due("fault", x.fault(what), 0);
            Check.due("store", x.store(what), 0);
        }
        Check.due("bits", x.bits(), 0);
        Check.due("token(-1)", x.token(-1, 0), 0);
        Check.due("token(0)", x.token(0, 0), -1);
        Check.due("told", x.told(0, 0), -1);
        Check.due("nameAt", x.nameAt(0, 0), -1);
        Check.due("extract", x.extract(0), -1);
        Check.due("wipe", x.wipe(), 0);
        Check.due("part", x.part(0, 0), -1);
        Check.due("lose", x.lose(0), -1);
        Check.due("spoil", x.spoil(0, 0, 0), -1);
        Check.due("repair", x.repair(), -1);
        Check.due("whole", x.whole(), -1);
        Check.due("restore(1)", x.restore(1), -1);
        Check.due("restore(0)", x.restore(0), -1);
        Check.due("forget(0)", x.forget(0), -1);
        Check.due("shared(0, 0)", x.shared(0, 0), -1);
        Check.due("the NAME at hand", x.name('n', 1), 1);
        Check.due("the first STREAM", x.pack(1, 0), 1);
        Check.due("the first ENTRY", x.entry(1, 0, 0), 0);
        Check.due("the first SNAPSHOT", x.save(), 1);
    }

    private static void manyCalls() {
        Check.says("An object is used for at most 512 calls after it has been made");
        PackingHouse x = new PackingHouse();
        for (int i = 1; i <= 511; i++) {
            Check.due("call " + i, x.feed(i, 8), 8 * i);
        }
        Check.due("the 512th call", x.octet(511 * 8 - 1), 255);
    }

    private static void feed() {
        Check.says("The n lowest octets of v, the highest first, come behind the TRAY: how many it has.");
        PackingHouse x = new PackingHouse();
        int place = 0;
        for (int n = 1; n <= 8; n++) {
            Check.due("feed " + n, x.feed(0xF1F2F3F4F5F6F7F8L, n), place + n);
            for (int i = 0; i < n; i++) {
                Check.due("octet " + (place + i), x.octet(place + i), 0xF8 - (n - 1 - i));
            }
            place += n;
        }
        Check.due("what is above is not looked at", x.feed(0x1FFL, 1), 37);
        Check.due("255", x.octet(36), 255);
        Check.due("below 0", x.feed(-2L, 3), 40);
        Check.due("254", x.octet(39), 254);
        Check.due("0", x.feed(0, 8), 48);
        Check.due("0", x.octet(47), 0);
        Check.due("the least", x.feed(Long.MIN_VALUE, 8), 56);
        Check.due("128", x.octet(48), 128);
    }

    private static void feedEdges() {
        Check.says("-2 n is not 1 .. 8, -4.");
        PackingHouse x = new PackingHouse();
        for (int n : new int[] {0, 9, -1, Integer.MIN_VALUE, Integer.MAX_VALUE}) {
            Check.due("feed n = " + n, x.feed(1, n), -2);
        }
        Check.due("nothing came", x.cut(0), 0);
        x.fill(0, 5993, 1);
        Check.due("5993 and 8", x.feed(1, 8), -4);
        Check.due("5993 and 9: -2 comes first", x.feed(1, 9), -2);
        Check.due("5993 and 7", x.feed(1, 7), 6000);
        Check.due("6000 and 1", x.feed(1, 1), -4);
        Check.due("6000 and 0", x.feed(1, 0), -2);
    }

    private static void trayIsFull() {
        Check.says("The TRAY has at most 6000 of them");
        PackingHouse x = new PackingHouse();
        Check.due("5999", x.fill(0, 5999, 1), 5999);
        Check.due("two more", x.feed(0x0809, 2), -4);
        Check.due("it stays", x.octet(5999), -1);
        Check.due("one more", x.feed(7, 1), 6000);
        Check.due("the last", x.octet(5999), 7);
        Check.due("behind the last", x.octet(6000), -1);
        Check.due("no more", x.feed(7, 1), -4);
        Check.due("no more", x.fill(0, 1, 1), -4);
        Check.due("none more", x.fill(0, 0, 1), 6000);
        Check.due("one less", x.cut(5999), 6000);
        Check.due("one more", x.fill(0, 1, 1), 6000);
    }

    private static void fill() {
        Check.says("N octets by a rule come behind the TRAY: how many it has. For each z (seed at first) is z * "
                + "1664525 + 1013904223, 32 bits, r its highest eight");
        for (int kind = 0; kind < 4; kind++) {
            for (int seed : new int[] {0, 5, -1, Integer.MIN_VALUE, Integer.MAX_VALUE}) {
                PackingHouse x = Check.house(Check.octets(9, 8));
                Check.due("fill", x.fill(kind, 300, seed), 302);
                byte[] want = Forms.filled(Check.octets(9, 8), kind, 300, seed);
                for (int i = 0; i < 302; i++) {
                    Check.due("fill " + kind + ", " + seed + " at " + i, x.octet(i), want[i] & 255);
                }
            }
        }
    }

    private static void fillEdges() {
        Check.says("-2 the kind is not 0 .. 3, or n below 0; -4.");
        PackingHouse x = new PackingHouse();
        for (int kind : new int[] {-1, 4, Integer.MIN_VALUE, Integer.MAX_VALUE}) {
            Check.due("kind " + kind, x.fill(kind, 1, 1), -2);
            Check.due("kind " + kind + " comes before no room", x.fill(kind, 6001, 1), -2);
        }
        Check.due("n -1", x.fill(0, -1, 1), -2);
        Check.due("n least", x.fill(0, Integer.MIN_VALUE, 1), -2);
        Check.due("n 0", x.fill(0, 0, 1), 0);
        Check.due("n 6001", x.fill(0, 6001, 1), -4);
        Check.due("n greatest", x.fill(0, Integer.MAX_VALUE, 1), -4);
        Check.due("n 6000", x.fill(3, 6000, 1), 6000);
        Check.due("no more", x.fill(3, 1, 1), -4);
        Check.due("greatest and 6000 wrap", x.fill(3, Integer.MAX_VALUE, 1), -4);
        Check.due("n -1, though there is no room", x.fill(3, -1, 1), -2);
        Check.due("none more", x.fill(3, 0, 1), 6000);
    }

    /** A seed whose first r is this one. */
    private static int seedOf(int r) {
        for (int seed = 0; ; seed++) {
            if (seed * 1664525 + 1013904223 >>> 24 == r) {
                return seed;
            }
        }
    }

    private static int one(byte[] before, int kind, int r) {
        PackingHouse x = Check.house(before);
        Check.due("fill one", x.fill(kind, 1, seedOf(r)), before.length + 1);
        return x.octet(before.length);
    }

    private static void fillKinds() {
        Check.says("the octet is: kind 0 r;");
        Check.due("r 0", one(Forms.NONE, 0, 0), 0);
        Check.due("r 255", one(Forms.NONE, 0, 255), 255);
        Check.says("1 97 + r mod 4;");
        for (int r : new int[] {0, 3, 4, 252, 255}) {
            Check.due("r " + r, one(Forms.NONE, 1, r), 97 + r % 4);
        }
        Check.says("2 the one 17 before it in the TRAY, if there is one and r is below 240, else r;");
        byte[] seventeen = Forms.ramp(101, 17);
        Check.due("17 before, r 239", one(seventeen, 2, 239), 101);
        Check.due("17 before, r 240", one(seventeen, 2, 240), 240);
        Check.due("17 before, r 255", one(seventeen, 2, 255), 255);
        Check.due("17 before, r 0", one(seventeen, 2, 0), 101);
        Check.due("only 16", one(Forms.ramp(101, 16), 2, 0), 0);
        Check.due("only 16, r 239", one(Forms.ramp(101, 16), 2, 239), 239);
        Check.due("18", one(Forms.ramp(101, 18), 2, 239), 102);
        Check.says("3 the one before it, if there is one and r is below 230, else r.");
        Check.due("r 229", one(seventeen, 3, 229), 117);
        Check.due("r 230", one(seventeen, 3, 230), 230);
        Check.due("r 0", one(Check.octets(9), 3, 0), 9);
        Check.due("none before", one(Forms.NONE, 3, 229), 229);
        Check.due("none before, r 0", one(Forms.NONE, 3, 0), 0);
    }

    private static void cut() {
        Check.says("The TRAY has its first n octets left: how many it had. -2 n is below 0 or above that.");
        PackingHouse x = Check.house(Check.octets("abcdef"));
        Check.due("cut 7", x.cut(7), -2);
        Check.due("cut -1", x.cut(-1), -2);
        Check.due("cut least", x.cut(Integer.MIN_VALUE), -2);
        Check.due("cut 6", x.cut(6), 6);
        Check.due("octet 5", x.octet(5), 'f');
        Check.due("cut 4", x.cut(4), 6);
        Check.due("octet 3", x.octet(3), 'd');
        Check.due("octet 4", x.octet(4), -1);
        Check.due("cut 5", x.cut(5), -2);
        Check.due("cut 4 again", x.cut(4), 4);
        Check.due("cut 0", x.cut(0), 4);
        Check.due("octet 0", x.octet(0), -1);
        Check.due("cut 0 of none", x.cut(0), 0);
        Check.due("cut 1 of none", x.cut(1), -2);
        Check.due("what comes now is the first", x.feed('z', 1), 1);
        Check.due("octet 0", x.octet(0), 'z');
    }

    private static void alter() {
        Check.says("Octet i of the TRAY becomes v: what it was. -1 there is none, -2 v is not 0 .. 255.");
        PackingHouse x = Check.house(Check.octets("abc"));
        Check.due("alter", x.alter(1, 200), 'b');
        Check.due("octet", x.octet(1), 200);
        Check.due("no such octet", x.alter(3, 1), -1);
        Check.due("no such octet", x.alter(-1, 1), -1);
        Check.due("no such octet", x.alter(Integer.MIN_VALUE, 1), -1);
        Check.due("no such octet, nor value", x.alter(3, 256), -1);
        Check.due("the last one", x.alter(2, 1), 'c');
        Check.due("the last one", x.octet(2), 1);
        Check.due("the first one", x.octet(0), 'a');
        Check.due("an octet that was cut", x.cut(2), 3);
        Check.due("is none", x.alter(2, 1), -1);
        Check.says("OCTETS are 0 .. 255.");
        Check.due("0", x.alter(0, 0), 'a');
        Check.due("255", x.alter(0, 255), 0);
        Check.due("256", x.alter(0, 256), -2);
        Check.due("-1", x.alter(0, -1), -2);
        Check.due("greatest", x.alter(0, Integer.MAX_VALUE), -2);
        Check.due("it stays", x.octet(0), 255);
    }

    private static void octet() {
        Check.says("`int octet(int i)`: Octet i of the TRAY. -1 there is none.");
        PackingHouse x = new PackingHouse();
        Check.due("none", x.octet(0), -1);
        x.feed(0x00FF, 2);
        Check.due("octet 0", x.octet(0), 0);
        Check.due("octet 1", x.octet(1), 255);
        Check.due("octet 2", x.octet(2), -1);
        Check.due("octet -1", x.octet(-1), -1);
        Check.due("octet least", x.octet(Integer.MIN_VALUE), -1);
        Check.due("octet greatest", x.octet(Integer.MAX_VALUE), -1);
    }

    private static void sumKinds() {
        Check.says("A sum of the TRAY: 0 ADLER, 1 ROUND, 2 TURNED, 3 MIXED. -2 no such kind.");
        PackingHouse x = Check.house(Check.octets("123456789"));
        Check.due("ADLER", x.sum(0), 0x091E01DEL);
        Check.due("ROUND", x.sum(1), 0xCBF43926L);
        Check.due("TURNED", x.sum(2), 0xFC891918L);
        Check.due("MIXED", x.sum(3), Forms.mixed(Check.octets("123456789")));
        for (int kind : new int[] {-1, 4, Integer.MIN_VALUE, Integer.MAX_VALUE}) {
            Check.due("sum(" + kind + ")", x.sum(kind), -2);
        }
        Check.says("numbers have no sign");
        Check.holds("its highest bit is 1", x.sum(1) > Integer.MAX_VALUE && x.sum(2) > Integer.MAX_VALUE);
    }

    private static void adler() {
        Check.says("ADLER: a = 1, b = 0; for each octet a = (a + octet) mod 65521, b = (b + a) mod 65521; b * "
                + "65536 + a.");
        Check.due("of none", new PackingHouse().sum(0), 1);
        Check.due("of a 0", Check.house(Check.octets(0)).sum(0), 0x00010001L);
        // 65520 is the greatest one half; one more is 0
        byte[] most = Check.octets(Check.times(255, 256), 239);
        Check.due("a is 65520", Check.house(most).sum(0) & 0xFFFF, 65520);
        Check.due("a is 0", Check.house(Check.octets(Check.times(255, 256), 240)).sum(0) & 0xFFFF, 0);
        Check.due("a is 1", Check.house(Check.octets(Check.times(255, 256), 241)).sum(0) & 0xFFFF, 1);
        byte[] before = Check.octets(255, Check.times(0, 253));
        Check.due("b is 65520", Check.house(Check.octets(before, 240)).sum(0) >> 16, 65520);
        Check.due("b is 0", Check.house(Check.octets(before, 241)).sum(0) >> 16, 0);
        Check.due("b is 1", Check.house(Check.octets(before, 242)).sum(0) >> 16, 1);
        for (byte[] text : Check.someTexts()) {
            Adler32 adler = new Adler32();
            adler.update(text);
            Check.due("ADLER", Check.house(text).sum(0), adler.getValue());
        }
        PackingHouse x = new PackingHouse();
        x.fill(3, 6000, 1);
        Adler32 adler = new Adler32();
        adler.update(Forms.filled(Forms.NONE, 3, 6000, 1));
        Check.due("ADLER of 6000", x.sum(0), adler.getValue());
    }

    private static void roundAndTurned() {
        Check.says("ROUND: a number of 32 bits, all 1 at first; for each octet it is, with the octet added bit by "
                + "bit (exclusive or), eight times moved right by one, and, if the bit that goes was 1, "
                + "0xEDB88320 is added bit by bit; at the end all bits are turned.");
        Check.due("of none", new PackingHouse().sum(1), 0);
        Check.due("of four 255s", Check.house(Check.times(255, 4)).sum(1), 0xFFFFFFFFL);
        for (byte[] text : Check.someTexts()) {
            Check.due("ROUND", Check.house(text).sum(1), Forms.round(text));
        }
        Check.says("TURNED: likewise, but the octet is added at the highest eight bits, it is moved left, and "
                + "with a 1 that goes 0x04C11DB7 is added.");
        Check.due("of none", new PackingHouse().sum(2), 0);
        Check.due("of four 255s", Check.house(Check.times(255, 4)).sum(2), 0xFFFFFFFFL);
        for (byte[] text : Check.someTexts()) {
            Check.due("TURNED", Check.house(text).sum(2), Forms.turned(text));
        }
    }

    private static void mixed() {
        // these are published
        Check.says("MIXED, over n octets, in 32 bits that wrap: P1 = 2654435761, P2 = 2246822519, P3 = "
                + "3266489917, P4 = 668265263, P5 = 374761393.");
        Check.due("of a", Check.house(Check.octets("a")).sum(3), 0x550D7456L);
        Check.due("of abc", Check.house(Check.octets("abc")).sum(3), 0x32D153FFL);
        Check.due("of a sentence", Check.house(Check.octets("Nobody inspects the spammish repetition")).sum(3),
                0xE2293B2FL);
        Check.says("If n is 16 or more, four lanes P1 + P2, P2, 0, - P1: of each 16 octets each lane takes four "
                + "(LOW FIRST), w: lane = rotated(lane + w * P2, 13) * P1; then h is the sum of the lanes, "
                + "rotated by 1, 7, 12, 18.");
        for (int n : new int[] {16, 17, 31, 32, 33, 47, 48, 6000}) {
            mixedOf(n);
        }
        Check.says("Else h = P5. h = h + n.");
        Check.due("of none", new PackingHouse().sum(3), 0x02CC5D05L);
        mixedOf(15);
        Check.says("For each four octets left: h = rotated(h + w * P3, 17) * P4; for each octet left: h = "
                + "rotated(h + octet * P5, 11) * P1.");
        for (int n : new int[] {1, 2, 3, 4, 5, 7, 8, 11, 12, 13, 18, 19, 20, 23, 28, 30}) {
            mixedOf(n);
        }
        Check.says("At last h, added bit by bit to itself moved right by 15, is times P2; likewise by 13, times "
                + "P3; likewise by 16. (Rotated to the left.)");
        for (int v = 0; v < 256; v++) {
            Check.due("of " + v, Check.house(Check.octets(v)).sum(3), Forms.mixed(Check.octets(v)));
        }
    }

    private static void mixedOf(int n) {
        for (int seed = 0; seed < 5; seed++) {
            PackingHouse x = new PackingHouse();
            x.fill(0, n, seed);
            Check.due("of " + n, x.sum(3), Forms.mixed(Forms.filled(Forms.NONE, 0, n, seed)));
        }
    }
}

import java.util.Arrays;

/** Promises 28 to 33: protect, part, lose, spoil, repair, whole. */
public final class PartsTest {
    /** Bits turned by the polynomial of ROUND itself, from the lowest octet on, are not seen by it. */
    private static final long UNSEEN = 0xEDB88320L << 1 | 1;

    public static void main(String[] args) {
        protectEdges();
        sizes();
        inPlaceOfOneBefore();
        checks();
        parts();
        losing();
        spoiling();
        spoilEdges();
        gone();
        repairEdges();
        repairing();
        whichChecks();
        roundStays();
        everything();
        whole();
        wholeEdges();
        Check.end("PartsTest");
    }

    private static void protectEdges() {
        Check.says("-2 data is not 1 .. 32, or checks not 0 .. 16.");
        PackingHouse x = Check.house(Check.octets("abcdefg"));
        for (int data : new int[] {0, 33, -1, Integer.MIN_VALUE, Integer.MAX_VALUE}) {
            Check.due("data " + data, x.protect(data, 1), -2);
        }
        for (int checks : new int[] {-1, 17, Integer.MIN_VALUE, Integer.MAX_VALUE}) {
            Check.due("checks " + checks, x.protect(1, checks), -2);
        }
        Check.due("there is no SET", x.part(0, 0), -1);
        Check.due("1 and 0", x.protect(1, 0), 7);
        Check.due("nothing to repair", x.repair(), 0);
        Check.due("all of it", Check.stream(x, x.whole()), Check.octets("abcdefg"));
        Check.due("it is lost", x.lose(0), 1);
        Check.due("no check for it", x.repair(), -3);
        Check.due("it is GONE", x.whole(), -3);
        x.protect(1, 0);
        Check.due("refused", x.protect(0, 0), -2);
        Check.due("the SET stays", x.part(0, 6), 'g');
        Check.due("no check", x.part(1, 0), -1);
        Check.due("32 and 16", x.protect(32, 16), 1);
        Check.due("the last check", x.part(47, 0) >= 0 ? 1 : 0, 1);
        Check.due("no further one", x.part(48, 0), -1);
    }

    private static void sizes() {
        Check.says("A SET: N data parts (1 .. 32) of the same size, the least with which the TRAY fits (1 at "
                + "least), filled with 0, and K checks (0 .. 16).");
        int[][] want = {{0, 1, 1}, {0, 32, 1}, {1, 1, 1}, {1, 32, 1}, {7, 3, 3}, {6, 3, 2}, {7, 7, 1}, {7, 8, 1},
            {31, 32, 1}, {32, 32, 1}, {33, 32, 2}, {6000, 1, 6000}, {6000, 2, 3000}, {5999, 2, 3000}, {6000, 7, 858},
            {6000, 32, 188}, {5984, 32, 187}, {5985, 32, 188}};
        for (int[] some : want) {
            for (int checks : new int[] {0, 16}) {
                PackingHouse x = new PackingHouse();
                x.fill(0, some[0], 3);
                Check.due(Arrays.toString(some), x.protect(some[1], checks), some[2]);
                byte[] text = Forms.filled(Forms.NONE, 0, some[0], 3);
                for (int i = 0; i < some[2]; i += Math.max(1, some[2] / 5)) {
                    int place = (some[1] - 1) * some[2] + i;
                    Check.due("the last part at " + i, x.part(some[1] - 1, i), place < some[0] ? text[place] & 255 : 0);
                }
                Check.due("no further octet", x.part(some[1] - 1, some[2]), -1);
            }
        }
        PackingHouse x = Check.house(Check.octets("abcdefg"));
        x.protect(3, 0);
        int[] octets = {'a', 'b', 'c', 'd', 'e', 'f', 'g', 0, 0};
        for (int i = 0; i < 9; i++) {
            Check.due("octet " + i, x.part(i / 3, i % 3), octets[i]);
        }
    }

    private static void inPlaceOfOneBefore() {
        Check.says("A SET of the TRAY, in place of one before: how many octets a part has.");
        PackingHouse x = Check.house(Check.octets("abcdefg"));
        x.protect(7, 2);
        x.lose(1);
        x.spoil(2, 0, 1);
        x.cut(0);
        Check.due("the SET stays when the TRAY does not", x.part(6, 0), 'g');
        x.feed(0x7879L, 2);
        Check.due("another one", x.protect(2, 1), 1);
        Check.due("its first", x.part(0, 0), 'x');
        Check.due("none is lost", x.part(1, 0), 'y');
        Check.due("it has three parts", x.part(3, 0), -1);
        Check.due("none is GONE", x.repair(), 0);
        x.lose(0);
        Check.due("the same again", x.protect(2, 1), 1);
        Check.due("none is lost", x.lose(0), 1);
    }

    private static int product(int a, int b) {
        int sum = 0;
        for (int i = 0; i < 8; i++) {
            if ((b >> i & 1) == 1) {
                sum ^= a << i;
            }
        }
        for (int i = 14; i >= 8; i--) {
            if ((sum >> i & 1) == 1) {
                sum ^= 0x11D << i - 8;
            }
        }
        return sum;
    }

    private static int inverse(int a) {
        int b = 1;
        while (product(a, b) != 1) {
            b++;
        }
        return b;
    }

    private static void checks() {
        Check.says("Octet i of check j (0, 1, ..) is the sum, bit by bit, over the data parts d (0, 1, ..) of "
                + "octet i of these times 1 / (d xor (255 - j)): octets are polynomials, whose products are taken "
                + "mod x^8 + x^4 + x^3 + x^2 + 1.");
        for (int data : new int[] {1, 5, 32}) {
            PackingHouse x = new PackingHouse();
            x.fill(0, 3 * data, 4);
            int size = x.protect(data, 16);
            for (int j = 0; j < 16; j++) {
                for (int i = 0; i < size; i++) {
                    int sum = 0;
                    for (int d = 0; d < data; d++) {
                        sum ^= product(x.part(d, i), inverse(d ^ 255 - j));
                    }
                    Check.due("check " + j + " at " + i, x.part(data + j, i), sum);
                }
            }
        }
        PackingHouse x = new PackingHouse();
        x.protect(32, 16);
        Check.due("0s", x.part(47, 0), 0);
    }

    private static void parts() {
        Check.says("Octet i of a part (data, then checks, from 0 on); of one that is lost 0. -1 there is no SET, "
                + "part, or octet.");
        PackingHouse x = Check.house(Check.octets("abcdef"));
        Check.due("no SET", x.part(0, 0), -1);
        x.protect(2, 1);
        Check.due("part 0", x.part(0, 2), 'c');
        Check.due("part 1", x.part(1, 2), 'f');
        for (int part : new int[] {3, -1, 48, Integer.MIN_VALUE, Integer.MAX_VALUE}) {
            Check.due("part " + part, x.part(part, 0), -1);
        }
        for (int i : new int[] {3, -1, 6, Integer.MIN_VALUE, Integer.MAX_VALUE}) {
            Check.due("octet " + i, x.part(0, i), -1);
            Check.due("octet " + i + " of the check", x.part(2, i), -1);
        }
        x.lose(1);
        Check.due("0 of one that is lost", x.part(1, 0), 0);
        Check.due("no octet of it, though", x.part(1, 3), -1);
        Check.due("others stay", x.part(0, 0), 'a');
        x.spoil(0, 0, 255);
        Check.due("as it was spoiled", x.part(0, 0), 'a' ^ 255);
    }

    private static void losing() {
        Check.says("A part is lost: 1; 0 if it was. -1 there is none.");
        PackingHouse x = Check.house(Check.octets("abcdef"));
        Check.due("no SET", x.lose(0), -1);
        x.protect(2, 1);
        for (int part : new int[] {3, -1, 48, Integer.MIN_VALUE, Integer.MAX_VALUE}) {
            Check.due("part " + part, x.lose(part), -1);
        }
        for (int part = 0; part < 3; part++) {
            Check.due("lose " + part, x.lose(part), 1);
            Check.due("it was lost", x.lose(part), 0);
        }
    }

    private static void spoiling() {
        Check.says("Bits of octet i of a part are turned by a mask (0 .. 255): what it was.");
        PackingHouse x = Check.house(Check.octets("abcdef"));
        x.protect(2, 2);
        Check.due("mask 3", x.spoil(0, 1, 3), 'b');
        Check.due("turned", x.part(0, 1), 'b' ^ 3);
        Check.due("what it was", x.spoil(0, 1, 3), 'b' ^ 3);
        Check.due("back again, none is GONE", x.repair(), 0);
        Check.due("mask 0", x.spoil(0, 0, 0), 'a');
        Check.due("it stays", x.part(0, 0), 'a');
        Check.due("mask 255", x.spoil(1, 2, 255), 'f');
        Check.due("all bits", x.part(1, 2), 'f' ^ 255);
        int check = x.part(3, 1);
        Check.due("of a check", x.spoil(3, 1, 128), check);
        Check.due("turned", x.part(3, 1), check ^ 128);
    }

    private static void spoilEdges() {
        Check.says("-1 there is no such part, or octet, -2 the mask, -3 it is lost.");
        PackingHouse x = Check.house(Check.octets("abcdef"));
        Check.due("no SET", x.spoil(0, 0, 1), -1);
        Check.due("no SET, nor mask", x.spoil(0, 0, 256), -1);
        x.protect(2, 1);
        for (int part : new int[] {3, -1, Integer.MIN_VALUE, Integer.MAX_VALUE}) {
            Check.due("part " + part, x.spoil(part, 0, 1), -1);
        }
        for (int i : new int[] {3, -1, Integer.MIN_VALUE, Integer.MAX_VALUE}) {
            Check.due("octet " + i, x.spoil(0, i, 1), -1);
            Check.due("octet " + i + ", nor mask", x.spoil(0, i, 256), -1);
        }
        for (int mask : new int[] {256, -1, Integer.MIN_VALUE, Integer.MAX_VALUE}) {
            Check.due("mask " + mask, x.spoil(0, 0, mask), -2);
        }
        x.lose(1);
        Check.due("it is lost", x.spoil(1, 0, 1), -3);
        Check.due("lost, with mask 0", x.spoil(1, 0, 0), -3);
        Check.due("the mask comes first", x.spoil(1, 0, 256), -2);
        Check.due("the octet comes first", x.spoil(1, 3, 1), -1);
        x.repair();
        Check.due("nothing was turned", x.part(1, 0), 'd');
        Check.due("it is there again", x.spoil(1, 0, 1), 'd');
    }

    private static void gone() {
        Check.says("REPAIR: parts that are lost, or whose ROUND is another one, are GONE");
        PackingHouse x = Check.house(Check.octets("abcdef"));
        x.protect(2, 3);
        Check.due("none", x.repair(), 0);
        x.lose(0);
        Check.due("a lost one", x.repair(), 1);
        x.spoil(1, 0, 1);
        Check.due("a spoiled one", x.repair(), 1);
        x.lose(4);
        x.spoil(2, 1, 64);
        Check.due("checks, too", x.repair(), 2);
        x.spoil(0, 0, 1);
        x.lose(0);
        Check.due("spoiled and lost is one", x.repair(), 1);
        Check.due("it is as it was", x.part(0, 0), 'a');
        Check.says("Each part has the ROUND that it had when it was made.");
        x.spoil(0, 0, 9);
        x.spoil(0, 0, 9);
        Check.due("turned back", x.repair(), 0);
        Check.says("REPAIR: how many were GONE. -1 there is no SET, -3 more than its checks.");
        Check.due("no SET", new PackingHouse().repair(), -1);
    }

    private static void repairEdges() {
        Check.says("-1 there is no SET, -3 more than its checks.");
        for (int checks = 0; checks <= 16; checks++) {
            PackingHouse x = new PackingHouse();
            x.fill(0, 200, 5);
            x.protect(20, checks);
            for (int p = 0; p < checks; p++) {
                x.lose(p);
            }
            Check.due(checks + " of " + checks, x.repair(), checks);
            for (int p = 0; p <= checks; p++) {
                x.lose(p);
            }
            Check.due(checks + 1 + " of " + checks, x.repair(), -3);
            Check.due("nothing changes", x.lose(0), 0);
            Check.due("nor the last", x.lose(checks), 0);
            Check.due("a part that was not lost", x.lose(19), 1);
        }
        PackingHouse x = Check.house(Check.octets("abcdef"));
        x.protect(2, 1);
        x.lose(2);
        x.spoil(0, 0, 1);
        Check.due("one data part and the check", x.repair(), -3);
        Check.due("as it was spoiled", x.part(0, 0), 'a' ^ 1);
        Check.due("still lost", x.part(2, 0), 0);
    }

    private static void repairing() {
        Check.says("if there are no more than K, each data part that is GONE is had again, from the other ones as "
                + "they are and as many checks");
        for (int data : new int[] {1, 2, 5, 16, 32}) {
            for (int checks : new int[] {1, 2, 7, 16}) {
                PackingHouse x = new PackingHouse();
                x.fill(0, 1000, data * 100 + checks);
                byte[] text = Forms.filled(Forms.NONE, 0, 1000, data * 100 + checks);
                int size = x.protect(data, checks);
                int[] before = new int[data + checks];
                for (int p = 0; p < data + checks; p++) {
                    before[p] = x.part(p, size / 2);
                }
                int gone = 0;
                for (int p = (data + checks) % 3; p < data + checks && gone < checks; p += 2) {
                    if (p % 4 < 2) {
                        x.lose(p);
                    } else {
                        x.spoil(p, size - 1, 128);
                    }
                    gone++;
                }
                Check.due("repair " + data + ", " + checks, x.repair(), gone);
                Check.due("whole", Check.stream(x, x.whole()), text);
                for (int p = 0; p < data + checks; p++) {
                    Check.due("part " + p, x.part(p, size / 2), before[p]);
                }
            }
        }
    }

    private static void turnUnseen(PackingHouse x, int part) {
        for (int i = 0; i < 5; i++) {
            x.spoil(part, i, (int) (UNSEEN >> 8 * i & 255));
        }
    }

    private static void whichChecks() {
        Check.says("those with the least numbers that are not GONE");
        // check 0 is spoiled, and not seen: what is had again by it differs by its bits times the data part's divisor
        for (int lostCheck = -1; lostCheck < 3; lostCheck++) {
            for (int spoiled = 0; spoiled < 3; spoiled++) {
                PackingHouse x = Check.house(Check.octets("abcdefghijkl"));
                x.protect(2, 3);
                turnUnseen(x, 2 + spoiled);
                x.lose(1);
                if (lostCheck >= 0) {
                    x.lose(2 + lostCheck);
                }
                int used = lostCheck == 0 ? 1 : 0;
                Check.due("repair", x.repair(), lostCheck >= 0 ? 2 : 1);
                for (int i = 0; i < 6; i++) {
                    boolean turned = used == spoiled && i < 5;
                    int by = turned ? product((int) (UNSEEN >> 8 * i & 255), 1 ^ 255 - used) : 0;
                    Check.due("part 1 by check " + used + " at " + i, x.part(1, i), 'g' + i ^ by);
                }
            }
        }
        Check.says("then the checks that are GONE are made from the data parts; none is lost then.");
        PackingHouse x = Check.house(Check.octets("abcdefghijkl"));
        x.protect(2, 2);
        turnUnseen(x, 0);
        x.lose(2);
        Check.due("repair", x.repair(), 1);
        for (int i = 0; i < 6; i++) {
            int spoiled = 'a' + i ^ (i < 5 ? (int) (UNSEEN >> 8 * i & 255) : 0);
            Check.due("from the spoiled one at " + i, x.part(2, i),
                    product(spoiled, inverse(255)) ^ product('g' + i, inverse(254)));
        }
        Check.due("none is lost", x.lose(2), 1);
    }

    private static void roundStays() {
        Check.says("(The ROUND that is told for a part stays: what was had again by spoiled parts that are not "
                + "GONE may be GONE at once.)");
        PackingHouse x = Check.house(Check.octets("abcdefghijkl"));
        x.protect(2, 1);
        turnUnseen(x, 0);
        Check.due("it is not GONE", x.repair(), 0);
        x.lose(1);
        Check.due("had again", x.repair(), 1);
        Check.holds("another one", x.part(1, 0) != 'g');
        Check.due("it is not lost", x.spoil(1, 0, 0), x.part(1, 0));
        Check.due("but GONE", x.whole(), -3);
        Check.due("and had again", x.repair(), 1);
        Check.due("and GONE again", x.repair(), 1);
        x.spoil(2, 0, 1);
        Check.due("now there are two", x.repair(), -3);
    }

    private static void everything() {
        Check.says("parts with checks, of which some may be lost");
        PackingHouse x = new PackingHouse();
        x.fill(1, 500, 3);
        x.protect(16, 16);
        for (int p = 0; p < 16; p++) {
            x.lose(p);
        }
        Check.due("all data by all checks", x.repair(), 16);
        Check.due("all octets", Check.stream(x, x.whole()), Forms.filled(Forms.NONE, 1, 500, 3));
        for (int p = 16; p < 32; p++) {
            x.lose(p);
        }
        Check.due("all checks", x.repair(), 16);
        Check.due("none is lost", x.lose(31), 1);
        PackingHouse one = new PackingHouse();
        one.fill(0, 6000, 9);
        one.protect(1, 16);
        for (int p = 0; p < 16; p++) {
            one.lose(p);
        }
        Check.due("by the last check", one.repair(), 16);
        one.load(one.whole());
        Check.due("6000", one.sum(1), Forms.round(Forms.filled(Forms.NONE, 0, 6000, 9)));
    }

    private static void whole() {
        Check.says("A new STREAM with the octets of the data parts, one part behind the other, as they are (a "
                + "spoiled one that is not GONE as it was spoiled), as many as the TRAY had.");
        for (int n : new int[] {0, 1, 6, 7, 31, 32, 33}) {
            for (int data : new int[] {1, 3, 32}) {
                PackingHouse x = new PackingHouse();
                x.fill(0, n, n);
                x.protect(data, 1);
                x.cut(0);
                Check.due("whole", x.whole(), 1);
                Check.due(n + " by " + data, Check.stream(x, 1), Forms.filled(Forms.NONE, 0, n, n));
            }
        }
        PackingHouse x = Check.house(Check.octets("abcdefghijkl"));
        x.protect(2, 1);
        turnUnseen(x, 0);
        byte[] want = Check.octets("abcdefghijkl");
        for (int i = 0; i < 5; i++) {
            want[i] ^= (byte) (UNSEEN >> 8 * i);
        }
        Check.due("as it was spoiled", Check.stream(x, x.whole()), want);
    }

    private static void wholeEdges() {
        Check.says("-1 there is no SET, -3 a data part is GONE, -4 no number is free.");
        PackingHouse x = Check.house(Check.octets("abcdef"));
        Check.due("no SET", x.whole(), -1);
        x.protect(2, 1);
        x.lose(2);
        Check.due("a check may be GONE", x.whole(), 1);
        x.lose(1);
        Check.due("a lost data part", x.whole(), -3);
        Check.due("nothing is had again", x.part(1, 0), 0);
        x.protect(2, 1);
        x.spoil(0, 0, 1);
        Check.due("a spoiled data part", x.whole(), -3);
        x.spoil(0, 0, 1);
        Check.useNumbers(x);
        Check.due("no number", x.whole(), -4);
        x.lose(0);
        Check.due("GONE comes first", x.whole(), -3);
        x.repair();
        x.drop(8);
        Check.due("the one that is free", x.whole(), 8);
        PackingHouse y = new PackingHouse();
        Check.useNumbers(y);
        Check.due("no SET comes first", y.whole(), -1);
    }
}

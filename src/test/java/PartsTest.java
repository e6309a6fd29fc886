import java.util.Arrays;

/** Promises 28 to 33: protect, part, lose, spoil, repair, whole. */
public final class PartsTest {
    public static void main(String[] args) {
        protects();
        checks();
        losing();
        spoiling();
        repairing();
        unseen();
        everything();
        Check.end("PartsTest");
    }

    private static void protects() {
        PackingHouse x = Check.house(Check.octets("abcdefg"));
        Check.due("data 0", x.protect(0, 1), -2);
        Check.due("data 33", x.protect(33, 1), -2);
        Check.due("checks -1", x.protect(1, -1), -2);
        Check.due("checks 17", x.protect(1, 17), -2);
        Check.due("there is no SET", x.part(0, 0), -1);
        Check.due("there is no SET", x.lose(0), -1);
        Check.due("there is no SET", x.spoil(0, 0, 1), -1);
        Check.due("there is no SET", x.repair(), -1);
        Check.due("there is no SET", x.whole(), -1);
        Check.due("seven by one", x.protect(1, 0), 7);
        Check.due("nothing to repair", x.repair(), 0);
        int all = x.whole();
        Check.due("one part", Check.stream(x, all), Check.octets("abcdefg"));
        x.drop(all);
        Check.due("seven by three", x.protect(3, 0), 3);
        Check.due("the last part", x.part(2, 0), 'g');
        Check.due("filled with 0", x.part(2, 1), 0);
        Check.due("no such octet", x.part(2, 3), -1);
        Check.due("no such octet", x.part(2, -1), -1);
        Check.due("no such part", x.part(3, 0), -1);
        Check.due("no such part", x.part(-1, 0), -1);
        Check.due("whole", x.whole(), 1);
        Check.due("as many as the TRAY had", Check.stream(x, 1), Check.octets("abcdefg"));
        Check.due("seven by seven", x.protect(7, 1), 1);
        Check.due("seven by eight", x.protect(8, 1), 1);
        x.cut(0);
        Check.due("the SET stays", x.part(6, 0), 'g');
        Check.due("refused, it stays", x.protect(0, 0), -2);
        Check.due("it stays", x.part(0, 0), 'a');
        Check.due("none, 1 at least", x.protect(32, 16), 1);
        Check.due("none", x.length(x.whole()), 0);
        x.fill(0, 6000, 1);
        Check.due("6000 by 1", x.protect(1, 16), 6000);
        Check.due("the last octet of the last check", x.part(16, 5999) >= 0 ? 1 : 0, 1);
        Check.due("6000 by 32", x.protect(32, 16), 188);
        for (int i = 3; i <= 12; i++) {
            x.whole();
        }
        Check.due("no number", x.whole(), -4);
        x.lose(0);
        Check.due("GONE comes first", x.whole(), -3);
    }

    private static int product(int a, int b) {
        int sum = 0;
        for (int i = 0; i < 8; i++) {
            if ((b >> i & 1) == 1) {
                sum ^= a << i;
            }
        }
        for (int i = 14; i >= 8; i--) {
            if ((sum >> i & 1) == 1) {
                sum ^= 0x11D << i - 8;
            }
        }
        return sum;
    }

    private static int inverse(int a) {
        int b = 1;
        while (product(a, b) != 1) {
            b++;
        }
        return b;
    }

    private static void checks() {
        PackingHouse x = new PackingHouse();
        x.fill(0, 100, 4);
        int size = x.protect(5, 16);
        for (int j = 0; j < 16; j++) {
            for (int i = 0; i < size; i++) {
                int sum = 0;
                for (int d = 0; d < 5; d++) {
                    sum ^= product(x.part(d, i), inverse(d ^ 255 - j));
                }
                Check.due("check " + j + " at " + i, x.part(5 + j, i), sum);
            }
        }
        Check.due("no further check", x.part(21, 0), -1);
    }

    private static void losing() {
        PackingHouse x = Check.house(Check.octets("abcdef"));
        x.protect(2, 1);
        Check.due("lose", x.lose(1), 1);
        Check.due("it was lost", x.lose(1), 0);
        Check.due("0 of one that is lost", x.part(1, 0), 0);
        Check.due("no octet of it, though", x.part(1, 3), -1);
        Check.due("spoil it", x.spoil(1, 0, 1), -3);
        Check.due("the mask comes first", x.spoil(1, 0, 256), -2);
        Check.due("lose none", x.lose(3), -1);
        Check.due("lose none", x.lose(-1), -1);
        Check.due("a data part is GONE", x.whole(), -3);
        Check.due("repair", x.repair(), 1);
        Check.due("it is there again", x.part(1, 0), 'd');
        Check.due("none is GONE", x.repair(), 0);
        x.lose(2);
        Check.due("a check may be GONE", x.whole(), 1);
        x.lose(0);
        Check.due("more than its checks", x.repair(), -3);
        Check.due("nothing changes", x.part(0, 0), 0);
        Check.due("both stay lost", x.lose(2), 0);
    }

    private static void spoiling() {
        PackingHouse x = Check.house(Check.octets("abcdef"));
        x.protect(2, 2);
        Check.due("spoil", x.spoil(0, 1, 3), 'b');
        Check.due("turned", x.part(0, 1), 'b' ^ 3);
        Check.due("what it was", x.spoil(0, 1, 3), 'b' ^ 3);
        Check.due("back again, none is GONE", x.repair(), 0);
        Check.due("mask 0", x.spoil(0, 0, 0), 'a');
        Check.due("mask -1", x.spoil(0, 0, -1), -2);
        Check.due("mask 256", x.spoil(0, 0, 256), -2);
        Check.due("no such octet, nor mask", x.spoil(0, 3, 256), -1);
        Check.due("no such part", x.spoil(4, 0, 1), -1);
        x.spoil(1, 2, 255);
        Check.due("GONE", x.whole(), -3);
        x.spoil(3, 0, 1);
        Check.due("two are GONE", x.repair(), 2);
        Check.due("whole again", Check.stream(x, x.whole()), Check.octets("abcdef"));
        Check.due("and none is GONE", x.repair(), 0);
        x.lose(0);
        x.spoil(1, 0, 9);
        x.lose(2);
        Check.due("three of two checks", x.repair(), -3);
    }

    private static void repairing() {
        for (int data : new int[] {1, 2, 5, 16, 32}) {
            for (int checks : new int[] {1, 2, 7, 16}) {
                PackingHouse x = new PackingHouse();
                x.fill(0, 1000, data * 100 + checks);
                byte[] text = new byte[1000];
                for (int i = 0; i < 1000; i++) {
                    text[i] = (byte) x.octet(i);
                }
                int size = x.protect(data, checks);
                int[] before = new int[data + checks];
                for (int p = 0; p < data + checks; p++) {
                    before[p] = x.part(p, size / 2);
                }
                int gone = 0;
                for (int p = (data + checks) % 3; p < data + checks && gone < checks; p += 2) {
                    if (p % 4 < 2) {
                        x.lose(p);
                    } else {
                        x.spoil(p, size - 1, 128);
                    }
                    gone++;
                }
                Check.due("repair " + data + ", " + checks, x.repair(), gone);
                Check.due("whole", Check.stream(x, x.whole()), text);
                for (int p = 0; p < data + checks; p++) {
                    Check.due("part " + p, x.part(p, size / 2), before[p]);
                }
            }
        }
    }

    /** Bits turned by the polynomial of ROUND itself are not seen by it. */
    private static void turnUnseen(PackingHouse x, int part) {
        long pattern = 0xEDB88320L << 1 | 1;
        for (int i = 0; i < 5; i++) {
            x.spoil(part, i, (int) (pattern >> 8 * i & 255));
        }
    }

    private static void unseen() {
        PackingHouse x = Check.house(Check.octets("abcdefghijkl"));
        x.protect(2, 1);
        turnUnseen(x, 0);
        Check.due("it is not GONE", x.repair(), 0);
        byte[] spoiled = Check.stream(x, x.whole());
        Check.holds("whole is as it was spoiled",
                !Arrays.equals(spoiled, Check.octets("abcdefghijkl")) && spoiled.length == 12);
        // what is had again by it is another part than it was, but here by a pattern that is not seen either way
        int before = x.part(1, 0);
        x.lose(1);
        Check.due("repair", x.repair(), 1);
        Check.holds("another one", x.part(1, 0) != before);
        int gone = x.repair();
        Check.due("its ROUND stays: it is GONE at once, or not seen", gone == 1 ? x.whole() : x.part(0, 0) >= 0 ? -3 : 0,
                -3);
    }

    private static void everything() {
        PackingHouse x = new PackingHouse();
        x.fill(1, 500, 3);
        x.protect(16, 16);
        for (int p = 0; p < 16; p++) {
            x.lose(p);
        }
        Check.due("all data by all checks", x.repair(), 16);
        int s = x.whole();
        x.load(s);
        int wrong = 0;
        PackingHouse y = new PackingHouse();
        y.fill(1, 500, 3);
        for (int i = 0; i < 500; i++) {
            wrong += x.octet(i) == y.octet(i) ? 0 : 1;
        }
        Check.due("all octets", wrong, 0);
        x.protect(16, 16);
        for (int p = 16; p < 32; p++) {
            x.lose(p);
        }
        Check.due("all checks", x.repair(), 16);
        Check.due("none is lost", x.lose(31), 1);
    }
}

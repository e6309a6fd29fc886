import java.util.zip.Adler32;
import java.util.zip.CRC32;

/** Promises 1 to 7: a new object, feed, fill, cut, alter, octet, sum. */
public final class TrayTest {
    public static void main(String[] args) {
        newObject();
        feed();
        fill();
        cut();
        alter();
        sums();
        Check.end("TrayTest");
    }

    private static void newObject() {
        PackingHouse x = new PackingHouse();
        Check.due("cut(0)", x.cut(0), 0);
        Check.due("octet(0)", x.octet(0), -1);
        for (int i = 0; i <= 13; i++) {
            Check.due("length", x.length(i), -1);
        }
        for (int what = 0; what < 3; what++) {
            Check.due("fault", x.fault(what), 0);
            Check.due("store", x.store(what), 0);
        }
        Check.due("bits", x.bits(), 0);
        Check.due("token(-1)", x.token(-1, 0), 0);
        Check.due("told", x.told(0, 0), -1);
        Check.due("wipe", x.wipe(), 0);
        Check.due("part", x.part(0, 0), -1);
        Check.due("repair", x.repair(), -1);
        Check.due("whole", x.whole(), -1);
        Check.due("restore(1)", x.restore(1), -1);
        Check.due("restore(0)", x.restore(0), -1);
    }

    private static void feed() {
        PackingHouse x = new PackingHouse();
        Check.due("feed 8", x.feed(0x0102030405060708L, 8), 8);
        Check.due("feed 1", x.feed(0x1FFL, 1), 9);
        Check.due("feed 3", x.feed(-2L, 3), 12);
        int[] want = {1, 2, 3, 4, 5, 6, 7, 8, 255, 255, 255, 254};
        for (int i = 0; i < want.length; i++) {
            Check.due("octet " + i, x.octet(i), want[i]);
        }
        Check.due("feed n = 0", x.feed(1, 0), -2);
        Check.due("feed n = 9", x.feed(1, 9), -2);
        Check.due("feed n = -1", x.feed(1, -1), -2);
        x.fill(0, 5987, 1);
        Check.due("5999 and 2", x.feed(1, 2), -4);
        Check.due("5999 and 9", x.feed(1, 9), -2);
        Check.due("5999 and 1", x.feed(7, 1), 6000);
        Check.due("6000 and 1", x.feed(7, 1), -4);
        Check.due("the last", x.octet(5999), 7);
        Check.due("behind the last", x.octet(6000), -1);
    }

    private static void fill() {
        for (int kind = 0; kind < 4; kind++) {
            for (int seed : new int[] {0, 5, -1, Integer.MIN_VALUE}) {
                PackingHouse x = new PackingHouse();
                x.feed(9, 1);
                Check.due("fill", x.fill(kind, 500, seed), 501);
                int[] tray = new int[501];
                tray[0] = 9;
                long z = seed & 0xFFFFFFFFL;
                for (int i = 1; i <= 500; i++) {
                    z = (z * 1664525 + 1013904223) % (1L << 32);
                    int r = (int) (z >> 24);
                    tray[i] = kind == 1 ? 97 + r % 4 : kind == 2 && i >= 17 && r < 240 ? tray[i - 17]
                            : kind == 3 && r < 230 ? tray[i - 1] : r;
                    Check.due("fill " + kind + " at " + i, x.octet(i), tray[i]);
                }
            }
        }
        PackingHouse x = new PackingHouse();
        Check.due("kind -1", x.fill(-1, 1, 1), -2);
        Check.due("kind 4", x.fill(4, 1, 1), -2);
        Check.due("n -1", x.fill(0, -1, 1), -2);
        Check.due("n 0", x.fill(0, 0, 1), 0);
        Check.due("n 6001", x.fill(0, 6001, 1), -4);
        Check.due("n greatest", x.fill(0, Integer.MAX_VALUE, 1), -4);
        Check.due("kind before room", x.fill(4, 6001, 1), -2);
        Check.due("n 6000", x.fill(3, 6000, 1), 6000);
        Check.due("no more", x.fill(3, 1, 1), -4);
        Check.due("none more", x.fill(3, 0, 1), 6000);
    }

    private static void cut() {
        PackingHouse x = Check.house(Check.octets("abcdef"));
        Check.due("cut 7", x.cut(7), -2);
        Check.due("cut -1", x.cut(-1), -2);
        Check.due("cut 4", x.cut(4), 6);
        Check.due("octet 3", x.octet(3), 'd');
        Check.due("octet 4", x.octet(4), -1);
        Check.due("cut 5", x.cut(5), -2);
        Check.due("cut 4 again", x.cut(4), 4);
        Check.due("cut 0", x.cut(0), 4);
        Check.due("octet 0", x.octet(0), -1);
    }

    private static void alter() {
        PackingHouse x = Check.house(Check.octets("abc"));
        Check.due("alter", x.alter(1, 200), 'b');
        Check.due("octet", x.octet(1), 200);
        Check.due("alter 255", x.alter(1, 255), 200);
        Check.due("no such octet", x.alter(3, 1), -1);
        Check.due("no such octet", x.alter(-1, 1), -1);
        Check.due("no such octet, nor value", x.alter(3, 256), -1);
        Check.due("value 256", x.alter(0, 256), -2);
        Check.due("value -1", x.alter(0, -1), -2);
        Check.due("octet stays", x.octet(0), 'a');
        Check.due("octet -1", x.octet(-1), -1);
        Check.due("octet least", x.octet(Integer.MIN_VALUE), -1);
    }

    private static void sums() {
        for (byte[] text : Check.someTexts()) {
            PackingHouse x = Check.house(text);
            Adler32 adler = new Adler32();
            adler.update(text);
            CRC32 round = new CRC32();
            round.update(text);
            Check.due("ADLER", x.sum(0), adler.getValue());
            Check.due("ROUND", x.sum(1), round.getValue());
            Check.due("TURNED", x.sum(2), turned(text));
        }
        // one half is just 65521, which is 0
        for (byte[] text : new byte[][] {Check.octets(Check.times(255, 256), 240),
            Check.octets(Check.times(255, 256), 240, 7)}) {
            Adler32 adler = new Adler32();
            adler.update(text);
            Check.due("ADLER", Check.house(text).sum(0), adler.getValue());
        }
        // these are published
        Check.due("TURNED of 1 .. 9", Check.house(Check.octets("123456789")).sum(2), 0xFC891918L);
        Check.due("MIXED of none", new PackingHouse().sum(3), 0x02CC5D05L);
        Check.due("MIXED of a", Check.house(Check.octets("a")).sum(3), 0x550D7456L);
        Check.due("MIXED of abc", Check.house(Check.octets("abc")).sum(3), 0x32D153FFL);
        Check.due("MIXED of a sentence",
                Check.house(Check.octets("Nobody inspects the spammish repetition")).sum(3), 0xE2293B2FL);
        Check.due("ADLER of 6000 times 255", Check.house(Check.times(255, 6000)).sum(0) % 65536, 1530001 % 65521);
        Check.due("no such sum", new PackingHouse().sum(4), -2);
        Check.due("no such sum", new PackingHouse().sum(-1), -2);
    }

    private static long turned(byte[] text) {
        int r = -1;
        for (byte b : text) {
            r ^= b << 24;
            for (int i = 0; i < 8; i++) {
                r = r < 0 ? r << 1 ^ 0x04C11DB7 : r << 1;
            }
        }
        return ~r & 0xFFFFFFFFL;
    }
}

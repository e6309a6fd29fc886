import java.util.zip.CRC32;

/** Promises 26 and 27: delta, apply. */
public final class DeltaTest {
    public static void main(String[] args) {
        refusals();
        deltas();
        lengths();
        rules();
        comesBack();
        Check.end("DeltaTest");
    }

    private static byte[] round(byte[] text) {
        CRC32 sum = new CRC32();
        sum.update(text);
        return Check.low(sum.getValue(), 4);
    }

    private static void refusals() {
        PackingHouse x = new PackingHouse();
        int a = Check.streamOf(x, Check.octets("abc"));
        Check.due("no first", x.delta(2, a), -1);
        Check.due("no other", x.delta(a, 2), -1);
        Check.due("no STREAM", x.apply(2), -1);
        Check.due("no STREAM", x.apply(0), -1);
        for (int i = 2; i <= 12; i++) {
            x.delta(a, a);
        }
        Check.due("no number", x.delta(a, a), -4);
        Check.due("no number", x.apply(a), -4);
        Check.due("none comes first", x.delta(a, 13), -1);
        Check.due("none comes first", x.apply(13), -1);
    }

    private static void made(String what, byte[] first, byte[] other, byte[] want) {
        PackingHouse x = new PackingHouse();
        int a = Check.streamOf(x, first);
        int b = Check.streamOf(x, other);
        int d = x.delta(a, b);
        Check.due(what, Check.stream(x, d), want);
        x.load(d);
        int back = x.apply(a);
        Check.due(what + ": apply", back, 4);
        Check.due(what + ": the same", x.differ(b, back), -1);
        Check.due(what + ": RULE", x.fault(0), 0);
        Check.due(what + ": out", x.fault(2), other.length);
    }

    private static void deltas() {
        byte[] first = Check.octets("0123456789abcdefghij");
        byte[] round = round(first);
        made("none", first, new byte[0], Check.octets(0, round));
        made("itself", first, first, Check.octets(20, round, 1, 20, 0));
        made("from none", new byte[0], Check.octets("abc"), Check.octets(3, 0, 0, 0, 0, 0, 3, "abc"));
        made("eight", first, Check.octets("23456789"), Check.octets(8, round, 1, 8, 2));
        made("seven are too few", first, Check.octets("2345678"), Check.octets(7, round, 0, 7, "2345678"));
        made("between", first, Check.octets("xx01234567yy89abcdefghij"),
                Check.octets(24, round, 0, 2, "xx", 1, 8, 0, 0, 2, "yy", 1, 12, 8));
        byte[] twice = Check.octets("ABCDEFGH-ABCDEFGHI-ABCDEFGHI");
        made("the longest, then the least place", twice, Check.octets("ABCDEFGHI"),
                Check.octets(9, round(twice), 1, 9, 9));
        byte[] far = Check.octets(Check.times('.', 300), "ABCDEFGH");
        made("a place in SEVENS", far, Check.octets("ABCDEFGH"), Check.octets(8, round(far), 1, 8, 172, 2));
    }

    private static void lengths() {
        byte[] first = Check.octets("................");
        for (int n : new int[] {199, 200, 201, 400, 401}) {
            byte[] other = new byte[n];
            for (int i = 0; i < n; i++) {
                other[i] = (byte) (i % 40);
            }
            byte[] want = Check.octets(n % 128 | 128, n / 128, round(first));
            for (int from = 0; from < n; from += 200) {
                int to = Math.min(n, from + 200);
                want = Check.octets(want, 0, to - from, java.util.Arrays.copyOfRange(other, from, to));
            }
            made(n + " octets", first, other, want);
        }
        // 200 of them and then one that is alike
        byte[] other = Check.octets(Check.times('x', 200), first);
        made("200 and a copy", first, other,
                Check.octets(88 | 128, 1, round(first), 0, 200, Check.times('x', 200), 1, 16, 0));
        // two octets more for each 200 are too many for 12000
        PackingHouse x = new PackingHouse();
        int a = Check.streamOf(x, new byte[0]);
        int b = Check.longStream(x, 1, 12000);
        Check.due("no room", x.delta(a, b), -4);
        Check.due("from itself", x.delta(b, b), 3);
        Check.due("that is short", x.length(3), 2 + 4 + 1 + 2 + 1);
        x.load(3);
        Check.due("12000 come out", x.length(x.apply(b)), 12000);
    }

    private static void faults(String what, byte[] delta, int rule, int place, int out) {
        PackingHouse x = new PackingHouse();
        int a = Check.streamOf(x, Check.octets("abcdefgh"));
        Check.tray(x, delta);
        Check.due(what + ": apply", x.apply(a), -10 - rule);
        Check.due(what + ": RULE", x.fault(0), rule);
        Check.due(what + ": PLACE", x.fault(1), place);
        Check.due(what + ": out", x.fault(2), out);
        Check.due(what + ": no STREAM", x.length(2), -1);
    }

    private static void rules() {
        byte[] round = round(Check.octets("abcdefgh"));
        faults("none", new byte[0], 1, 0, 0);
        faults("ROUND lacks", Check.octets(3, 1, 2), 1, 3, 0);
        faults("SEVENS", Check.octets(128, 128, 128, 128, 16), 51, 4, 0);
        faults("12001", Check.octets(0xE1, 0x5D), 13, 1, 0);
        faults("ROUND", Check.octets(3, 0, 0, 0, 0), 131, 4, 0);
        faults("neither", Check.octets(3, round, 2), 132, 5, 0);
        faults("0 octets", Check.octets(3, round, 0, 0), 133, 6, 0);
        faults("a length of 0", Check.octets(3, round, 1, 0), 133, 6, 0);
        faults("more octets", Check.octets(3, round, 0, 4), 134, 6, 0);
        faults("a longer copy", Check.octets(3, round, 1, 4), 134, 6, 0);
        faults("beyond the first text", Check.octets(3, round, 1, 3, 6), 133, 7, 0);
        faults("far beyond it", Check.octets(3, round, 1, 3, 255, 255, 255, 255, 15), 133, 11, 0);
        faults("SEVENS of a place", Check.octets(3, round, 1, 3, 255, 255, 255, 255, 16), 51, 11, 0);
        faults("octets lack", Check.octets(3, round, 0, 3, "ab"), 1, 9, 2);
        faults("fewer", Check.octets(3, round, 0, 2, "ab"), 135, 9, 2);
        faults("a place lacks", Check.octets(3, round, 1, 3), 1, 7, 0);
        faults("all is there", Check.octets(1, round, 0, 1, "a", 1, 1), 134, 9, 1);
        PackingHouse x = new PackingHouse();
        int a = Check.streamOf(x, Check.octets("abcdefgh"));
        Check.tray(x, Check.octets(6, round, 1, 3, 5, 0, 3, "xyz"));
        Check.due("short copies are fine", Check.stream(x, x.apply(a)), Check.octets("fghxyz"));
    }

    private static void comesBack() {
        for (byte[] first : Check.someTexts()) {
            for (byte[] other : Check.someTexts()) {
                PackingHouse x = new PackingHouse();
                int a = first.length > 5900 ? Check.longStream(x, first[0] & 255, 6000) : Check.streamOf(x, first);
                int b = other.length > 5900 ? Check.longStream(x, other[0] & 255, 6000) : Check.streamOf(x, other);
                int d = x.delta(a, b);
                Check.due("delta", d, 3);
                if (x.load(d) >= 0) {
                    Check.due("apply", x.apply(a), 4);
                    Check.due("the same", x.differ(b, 4), -1);
                }
            }
        }
    }
}

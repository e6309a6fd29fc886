/** Promises 8 to 12: length, at, load, drop, differ. */
public final class StreamsTest {
    public static void main(String[] args) {
        numbers();
        loading();
        differences();
        Check.end("StreamsTest");
    }

    private static void numbers() {
        PackingHouse x = Check.house(Check.octets("abc"));
        for (int i = 1; i <= 12; i++) {
            Check.due("pack", x.pack(3, 0), i);
        }
        Check.due("no number is free", x.pack(3, 0), -4);
        Check.due("length 12", x.length(12), 8);
        Check.due("length 13", x.length(13), -1);
        Check.due("length 0", x.length(0), -1);
        Check.due("length least", x.length(Integer.MIN_VALUE), -1);
        Check.due("drop 5", x.drop(5), 8);
        Check.due("drop 5 again", x.drop(5), -1);
        Check.due("drop 3", x.drop(3), 8);
        Check.due("length 5", x.length(5), -1);
        Check.due("at 5", x.at(5, 0), -1);
        Check.due("the least that is free", x.pack(1, 0), 3);
        Check.due("the next that is free", x.pack(1, 0), 5);
        Check.due("none is free", x.pack(1, 0), -4);
        Check.due("drop 0", x.drop(0), -1);
        Check.due("drop 13", x.drop(13), -1);
    }

    private static void loading() {
        PackingHouse x = new PackingHouse();
        int s = Check.streamOf(x, Check.octets("abc", 0, 255));
        Check.due("at 0", x.at(s, 0), 'a');
        Check.due("at 4", x.at(s, 4), 255);
        Check.due("at 5", x.at(s, 5), -1);
        Check.due("at -1", x.at(s, -1), -1);
        Check.due("at of none", x.at(s + 1, 0), -1);
        x.cut(0);
        x.fill(0, 100, 1);
        Check.due("load", x.load(s), 5);
        Check.due("cut", x.cut(5), 5);
        Check.due("octet", x.octet(4), 255);
        Check.due("load of none", x.load(12), -1);
        Check.due("load 0", x.load(0), -1);
        Check.due("the TRAY stays", x.octet(0), 'a');
        x.alter(0, 'z');
        Check.due("the STREAM stays", x.at(s, 0), 'a');
        int six = Check.longStream(x, 7, 6000);
        Check.due("6000", x.length(six), 6000);
        int more = Check.longStream(x, 7, 6001);
        int most = Check.longStream(x, 7, 12000);
        Check.due("12000", x.length(most), 12000);
        Check.due("at 11999", x.at(most, 11999), 7);
        Check.due("at 12000", x.at(most, 12000), -1);
        x.cut(3);
        Check.due("6001 do not fit", x.load(more), -4);
        Check.due("12000 do not fit", x.load(most), -4);
        Check.due("the TRAY stays", x.cut(3), 3);
        Check.due("6000 fit", x.load(six), 6000);
    }

    private static void differences() {
        PackingHouse x = new PackingHouse();
        int a = Check.streamOf(x, Check.octets("abcdef"));
        int b = Check.streamOf(x, Check.octets("abcdef"));
        int c = Check.streamOf(x, Check.octets("abXdef"));
        int d = Check.streamOf(x, Check.octets("abcd"));
        int e = Check.streamOf(x, new byte[0]);
        Check.due("the same", x.differ(a, b), -1);
        Check.due("itself", x.differ(a, a), -1);
        Check.due("at 2", x.differ(a, c), 2);
        Check.due("at 2, too", x.differ(c, a), 2);
        Check.due("one goes on", x.differ(a, d), 4);
        Check.due("the other goes on", x.differ(d, a), 4);
        Check.due("one is empty", x.differ(a, e), 0);
        Check.due("both are empty", x.differ(e, e), -1);
        Check.due("one is none", x.differ(a, 12), -1);
        Check.due("the other is none", x.differ(12, a), -1);
        Check.due("no number", x.differ(0, 13), -1);
    }
}

/** Promises 8 to 12: length, at, load, drop, differ. */
public final class StreamsTest {
    public static void main(String[] args) {
        numbers();
        most();
        length();
        octets();
        loading();
        dropping();
        differences();
        Check.end("StreamsTest");
    }

    private static void numbers() {
        Check.says("STREAMS (1 .. 12) at most 12000 each");
        PackingHouse x = Check.house(Check.octets("abc"));
        for (int i = 1; i <= 12; i++) {
            Check.due("pack", x.pack(3, 0), i);
        }
        Check.due("no number is free", x.pack(3, 0), -4);
        Check.due("length 12", x.length(12), 8);
        Check.due("length 13", x.length(13), -1);
        Check.due("length 0", x.length(0), -1);
        Check.due("drop 5", x.drop(5), 8);
        Check.due("drop 3", x.drop(3), 8);
        Check.due("drop 12", x.drop(12), 8);
        Check.due("the least that is free", x.pack(1, 0), 3);
        Check.due("the next that is free", x.pack(1, 0), 5);
        Check.due("the last that is free", x.pack(1, 0), 12);
        Check.due("none is free", x.pack(1, 0), -4);
    }

    private static void most() {
        Check.says("at most 12000 each");
        PackingHouse x = new PackingHouse();
        int most = Check.longStream(x, 7, 12000);
        Check.due("12000", x.length(most), 12000);
        Check.due("at 11999", x.at(most, 11999), 7);
        Check.due("at 12000", x.at(most, 12000), -1);
        Check.due("12001 do not come", Check.longStream(x, 7, 12001), -23);
        Check.due("but 12000 had", x.fault(2), 12000);
        Check.due("no STREAM is made", x.length(2), -1);
    }

    private static void length() {
        Check.says("`int length(int stream)`: How many octets a STREAM has. -1 there is none.");
        PackingHouse x = new PackingHouse();
        Check.due("none yet", x.length(1), -1);
        x.pack(1, 0);
        Check.due("an empty one", x.length(1), 0);
        Check.due("the next", x.length(2), -1);
        for (int stream : new int[] {0, -1, 13, Integer.MIN_VALUE, Integer.MAX_VALUE}) {
            Check.due("length(" + stream + ")", x.length(stream), -1);
        }
        x.drop(1);
        Check.due("dropped", x.length(1), -1);
    }

    private static void octets() {
        Check.says("`int at(int stream, int i)`: Octet i of a STREAM. -1 there is no such STREAM, or octet.");
        PackingHouse x = new PackingHouse();
        int s = Check.streamOf(x, Check.octets("abc", 0, 255));
        Check.due("at 0", x.at(s, 0), 'a');
        Check.due("at 3", x.at(s, 3), 0);
        Check.due("at 4", x.at(s, 4), 255);
        for (int i : new int[] {5, -1, Integer.MIN_VALUE, Integer.MAX_VALUE}) {
            Check.due("at " + i, x.at(s, i), -1);
        }
        for (int stream : new int[] {0, -1, s + 1, 12, 13, Integer.MIN_VALUE, Integer.MAX_VALUE}) {
            Check.due("at of " + stream, x.at(stream, 0), -1);
        }
        x.cut(0);
        x.drop(s);
        Check.due("dropped", x.at(s, 0), -1);
        x.pack(1, 0);
        Check.due("an empty one has none", x.at(s, 0), -1);
    }

    private static void loading() {
        Check.says("The TRAY becomes a STREAM's octets: how many. -1 there is none, -4 it has more than 6000.");
        PackingHouse x = new PackingHouse();
        int s = Check.streamOf(x, Check.octets("abc", 0, 255));
        x.cut(0);
        x.fill(0, 100, 1);
        Check.due("load", x.load(s), 5);
        Check.due("cut", x.cut(5), 5);
        Check.due("octet", x.octet(4), 255);
        for (int stream : new int[] {0, -1, 2, 12, 13, Integer.MIN_VALUE, Integer.MAX_VALUE}) {
            Check.due("load of " + stream, x.load(stream), -1);
        }
        Check.due("the TRAY stays", x.octet(0), 'a');
        x.alter(0, 'z');
        Check.due("the STREAM stays", x.at(s, 0), 'a');
        int six = Check.longStream(x, 7, 6000);
        int more = Check.longStream(x, 7, 6001);
        int most = Check.longStream(x, 7, 12000);
        x.cut(3);
        Check.due("6001 do not fit", x.load(more), -4);
        Check.due("12000 do not fit", x.load(most), -4);
        Check.due("the TRAY stays", x.cut(3), 3);
        Check.due("6000 fit", x.load(six), 6000);
        Check.due("the last one", x.octet(5999), 7);
        x.cut(0);
        int none = x.pack(1, 0);
        x.feed(1, 1);
        Check.due("an empty one", x.load(none), 0);
        Check.due("nothing is left", x.octet(0), -1);
    }

    private static void dropping() {
        Check.says("A STREAM is no more: how many octets it had. -1 there is none.");
        PackingHouse x = new PackingHouse();
        int s = Check.longStream(x, 1, 12000);
        Check.due("drop", x.drop(s), 12000);
        Check.due("again", x.drop(s), -1);
        Check.due("load", x.load(s), -1);
        Check.due("differ", x.differ(s, s), -1);
        x.cut(0);
        Check.due("an empty one", x.drop(x.pack(1, 0)), 0);
        for (int stream : new int[] {0, -1, 12, 13, Integer.MIN_VALUE, Integer.MAX_VALUE}) {
            Check.due("drop(" + stream + ")", x.drop(stream), -1);
        }
    }

    private static void differences() {
        Check.says("The first octet by which two STREAMS differ (or which only one has); -1 if there is none, or "
                + "one of them is none.");
        PackingHouse x = new PackingHouse();
        int a = Check.streamOf(x, Check.octets("abcdef"));
        int b = Check.streamOf(x, Check.octets("abcdef"));
        int c = Check.streamOf(x, Check.octets("abXdef"));
        int d = Check.streamOf(x, Check.octets("abcd"));
        int e = Check.streamOf(x, Forms.NONE);
        int f = Check.streamOf(x, Check.octets("Xbcdef"));
        int g = Check.streamOf(x, Check.octets("abcdeX"));
        int h = Check.streamOf(x, Check.octets("abcdef", 0));
        Check.due("the same", x.differ(a, b), -1);
        Check.due("itself", x.differ(a, a), -1);
        Check.due("at 2", x.differ(a, c), 2);
        Check.due("at 2, too", x.differ(c, a), 2);
        Check.due("the first", x.differ(a, f), 0);
        Check.due("the last", x.differ(a, g), 5);
        Check.due("one goes on", x.differ(a, d), 4);
        Check.due("the other goes on", x.differ(d, a), 4);
        Check.due("one goes on with a 0", x.differ(a, h), 6);
        Check.due("one is empty", x.differ(a, e), 0);
        Check.due("the other is empty", x.differ(e, a), 0);
        Check.due("both are empty", x.differ(e, e), -1);
        for (int none : new int[] {0, -1, 12, 13, Integer.MIN_VALUE, Integer.MAX_VALUE}) {
            Check.due("one is none", x.differ(a, none), -1);
            Check.due("the other is none", x.differ(none, a), -1);
            Check.due("both are none", x.differ(none, none), -1);
        }
        int full = Check.longStream(x, 1, 12000);
        int less = Check.longStream(x, 1, 11999);
        Check.due("the last of 12000", x.differ(full, less), 11999);
    }
}

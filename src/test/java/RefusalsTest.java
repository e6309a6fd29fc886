import java.util.function.Supplier;
import java.util.function.ToLongFunction;

/** Refusals of every call, and FAULTS: a picture of the whole house is the same before and behind them. */
public final class RefusalsTest {
    private static final int LONG = 4;

    public static void main(String[] args) {
        Check.says("ANSWERS below 0 are refusals and change nothing: -1 there is no such thing, -2 outside the "
                + "range, -3 not in this state, -4 no room");
        tray();
        streams();
        packing();
        shelves();
        deltas();
        parts();
        store();
        faults();
        firstThatFits();
        Check.end("RefusalsTest");
    }

    /** Something of everything, and room for more of it. */
    private static PackingHouse ordinary() {
        PackingHouse x = Check.house(Check.octets("abcabcabcabc"));
        x.protect(3, 1);
        x.lose(1);
        x.save();
        x.pack(3, 0);
        x.load(1);
        x.open(3);
        x.pack(1, 0);
        Check.longStream(x, 7, 6001);
        x.name(0x6E31L, 2);
        x.entry(1, 420, 5);
        x.name(0x2F6E616D65206F6EL, 8);
        x.entry(2, 1, 9);
        x.load(2);
        x.pack(4, 1);
        x.cut(3);
        x.open(3);
        x.name(0x6E6DL, 2);
        x.save();
        return x;
    }

    /** No number is free, and there is no room for anything. */
    private static PackingHouse full() {
        PackingHouse x = new PackingHouse();
        x.feed(0x616263646566L, 6);
        x.protect(2, 2);
        x.pack(1, 0);
        for (int i = 0; i < 16; i++) {
            x.name('n', 1);
            x.entry(1, i, i);
        }
        for (int i = 0; i < 12; i++) {
            x.name(0x6161616161616161L, 8);
        }
        x.name(0x61616161L, 4);
        for (int i = 0; i < 8; i++) {
            x.save();
        }
        x.fill(0, 5994, 1);
        for (int i = 2; i <= 12; i++) {
            x.pack(10, 0);
        }
        return x;
    }

    private static PackingHouse bare() {
        return new PackingHouse();
    }

    /** All that can be seen without a change, and then some calls that tell what is left of it. */
    private static String picture(PackingHouse x, boolean withFault) {
        StringBuilder all = new StringBuilder("TRAY");
        for (int i : new int[] {0, 1, 2, 3, 4, 5, 6, 7, 11, 12, 13, 5998, 5999}) {
            all.append(' ').append(x.octet(i));
        }
        for (int kind = 0; kind < 4; kind++) {
            all.append(' ').append(x.sum(kind));
        }
        all.append(" STREAMS");
        for (int s = 1; s <= 12; s++) {
            all.append(' ').append(x.length(s)).append(' ').append(x.at(s, 0)).append(' ').append(x.at(s, 5));
            all.append(' ').append(x.differ(1, s));
        }
        for (int what = 0; what < 3; what++) {
            all.append(withFault ? " FAULT " + x.fault(what) : "").append(" STORE ").append(x.store(what));
            for (int i = -1; i < 5; i++) {
                all.append(" token ").append(x.token(i, what));
            }
        }
        all.append(" bits ").append(x.bits()).append(" ENTRIES");
        for (int e = 0; e <= 16; e++) {
            for (int what = 0; what < 5; what++) {
                all.append(' ').append(x.told(e, what));
            }
            all.append(' ').append(x.nameAt(e, 0)).append(' ').append(x.nameAt(e, 1));
        }
        all.append(" PARTS");
        for (int p = 0; p < 5; p++) {
            for (int i = 0; i < 4; i++) {
                all.append(' ').append(x.part(p, i));
            }
        }
        return all.append(rest(x)).toString();
    }

    private static String rest(PackingHouse x) {
        StringBuilder all = new StringBuilder(" SNAPSHOTS");
        for (int n = 1; n < 12; n++) {
            all.append(' ').append(x.shared(n, n));
        }
        all.append(" NAME ").append(x.name(0x71L, 1)).append(" ENTRY ").append(x.entry(2, 0, 0));
        all.append(" PARTS");
        for (int p = 0; p < 5; p++) {
            all.append(' ').append(x.lose(p));
        }
        all.append(' ').append(x.repair()).append(" STREAM ").append(x.pack(1, 0)).append(" SNAPSHOT ").append(x.save());
        return all.append(" ENTRIES ").append(x.wipe()).append(" TRAY ").append(x.cut(0)).toString();
    }

    private static void same(String what, Supplier<PackingHouse> made, long due, ToLongFunction<PackingHouse> call) {
        PackingHouse x = made.get();
        Check.due(what, call.applyAsLong(x), due);
        Check.due(what + ": nothing changes", picture(x, due > -10), picture(made.get(), due > -10));
    }

    private static void tray() {
        for (int n : new int[] {-1, 0, 9}) {
            same("feed " + n, RefusalsTest::ordinary, -2, x -> x.feed(1, n));
        }
        same("feed", RefusalsTest::full, -4, x -> x.feed(1, 1));
        same("fill -1", RefusalsTest::ordinary, -2, x -> x.fill(-1, 1, 1));
        same("fill 4", RefusalsTest::ordinary, -2, x -> x.fill(4, 1, 1));
        same("fill none less", RefusalsTest::ordinary, -2, x -> x.fill(0, -1, 1));
        same("fill 5998", RefusalsTest::ordinary, -4, x -> x.fill(0, 5998, 1));
        same("fill", RefusalsTest::full, -4, x -> x.fill(0, 1, 1));
        same("cut -1", RefusalsTest::ordinary, -2, x -> x.cut(-1));
        same("cut 4", RefusalsTest::ordinary, -2, x -> x.cut(4));
        same("alter -1", RefusalsTest::ordinary, -1, x -> x.alter(-1, 1));
        same("alter 3", RefusalsTest::ordinary, -1, x -> x.alter(3, 1));
        same("alter to 256", RefusalsTest::ordinary, -2, x -> x.alter(0, 256));
        same("octet 3", RefusalsTest::ordinary, -1, x -> x.octet(3));
        same("sum 4", RefusalsTest::ordinary, -2, x -> x.sum(4));
    }

    private static void streams() {
        same("length", RefusalsTest::ordinary, -1, x -> x.length(12));
        same("at", RefusalsTest::ordinary, -1, x -> x.at(12, 0));
        same("load of none", RefusalsTest::ordinary, -1, x -> x.load(12));
        same("load of 6001", RefusalsTest::ordinary, -4, x -> x.load(LONG));
        same("drop of none", RefusalsTest::ordinary, -1, x -> x.drop(12));
        same("drop of 0", RefusalsTest::full, -1, x -> x.drop(0));
        same("differ", RefusalsTest::ordinary, -1, x -> x.differ(1, 12));
    }

    private static void packing() {
        same("pack 0", RefusalsTest::ordinary, -2, x -> x.pack(0, 0));
        same("pack 11", RefusalsTest::ordinary, -2, x -> x.pack(11, 0));
        for (int kind = 1; kind <= 10; kind++) {
            int which = kind;
            same("pack, level -1", RefusalsTest::ordinary, -2, x -> x.pack(which, -1));
            same("pack, level 5", RefusalsTest::ordinary, -2, x -> x.pack(which, 5));
            same("pack", RefusalsTest::full, -4, x -> x.pack(which, 0));
            same("open", RefusalsTest::full, -4, x -> x.open(which));
        }
        same("open 0", RefusalsTest::ordinary, -2, x -> x.open(0));
        same("open 11", RefusalsTest::ordinary, -2, x -> x.open(11));
        same("fault", RefusalsTest::ordinary, -2, x -> x.fault(3));
        same("token", RefusalsTest::ordinary, -1, x -> x.token(99, 0));
        same("token what", RefusalsTest::ordinary, -2, x -> x.token(0, 3));
    }

    private static void shelves() {
        same("name 9", RefusalsTest::ordinary, -2, x -> x.name(1, 9));
        same("name of 0", RefusalsTest::ordinary, -2, x -> x.name(0x610062, 3));
        same("name", RefusalsTest::full, -4, x -> x.name('a', 1));
        same("entry of none", RefusalsTest::ordinary, -1, x -> x.entry(12, 0, 0));
        same("entry mode", RefusalsTest::ordinary, -2, x -> x.entry(2, 512, 0));
        same("entry time", RefusalsTest::ordinary, -2, x -> x.entry(2, 0, -1));
        same("entry of 6001", RefusalsTest::ordinary, -4, x -> x.entry(LONG, 0, 0));
        same("entry", RefusalsTest::full, -4, x -> x.entry(2, 0, 0));
        same("write 10", RefusalsTest::ordinary, -2, x -> x.write(10, 0));
        same("write level", RefusalsTest::ordinary, -2, x -> x.write(13, 5));
        same("write NAME", RefusalsTest::ordinary, -3, x -> x.write(12, 0));
        for (int kind = 11; kind <= 13; kind++) {
            int which = kind;
            same("write", RefusalsTest::full, -4, x -> x.write(which, 0));
        }
        same("read 10", RefusalsTest::ordinary, -2, x -> x.read(10));
        same("told", RefusalsTest::ordinary, -1, x -> x.told(9, 0));
        same("told what", RefusalsTest::ordinary, -2, x -> x.told(0, 5));
        same("nameAt", RefusalsTest::ordinary, -1, x -> x.nameAt(0, 2));
        same("extract of none", RefusalsTest::ordinary, -1, x -> x.extract(2));
        same("extract", RefusalsTest::full, -4, x -> x.extract(0));
    }

    private static void deltas() {
        same("delta of none", RefusalsTest::ordinary, -1, x -> x.delta(1, 12));
        same("delta", RefusalsTest::full, -4, x -> x.delta(1, 2));
        same("apply of none", RefusalsTest::ordinary, -1, x -> x.apply(12));
        same("apply", RefusalsTest::full, -4, x -> x.apply(1));
    }

    private static PackingHouse twoLost() {
        PackingHouse x = ordinary();
        x.lose(2);
        return x;
    }

    private static void parts() {
        same("protect 0", RefusalsTest::ordinary, -2, x -> x.protect(0, 1));
        same("protect 17", RefusalsTest::ordinary, -2, x -> x.protect(1, 17));
        same("part", RefusalsTest::ordinary, -1, x -> x.part(4, 0));
        same("lose", RefusalsTest::ordinary, -1, x -> x.lose(4));
        same("spoil of none", RefusalsTest::ordinary, -1, x -> x.spoil(4, 0, 1));
        same("spoil mask", RefusalsTest::ordinary, -2, x -> x.spoil(0, 0, 256));
        same("spoil of a lost one", RefusalsTest::ordinary, -3, x -> x.spoil(1, 0, 1));
        same("repair", RefusalsTest::twoLost, -3, PackingHouse::repair);
        same("repair of none", RefusalsTest::bare, -1, PackingHouse::repair);
        same("whole", RefusalsTest::ordinary, -3, PackingHouse::whole);
        same("whole of none", RefusalsTest::bare, -1, PackingHouse::whole);
        same("whole", RefusalsTest::full, -4, PackingHouse::whole);
    }

    private static void store() {
        same("save", RefusalsTest::full, -4, PackingHouse::save);
        same("restore of none", RefusalsTest::ordinary, -1, x -> x.restore(9));
        same("restore", RefusalsTest::full, -4, x -> x.restore(1));
        same("forget", RefusalsTest::ordinary, -1, x -> x.forget(9));
        same("shared", RefusalsTest::ordinary, -1, x -> x.shared(1, 9));
        same("store", RefusalsTest::ordinary, -2, x -> x.store(3));
    }

    private static void faults() {
        Check.says("-10 less a RULE: a FAULT (no STREAM is made).");
        int[] rules = {0, 0, 60, 1, 20, 30, 0, 43, 0, 80, 0};
        for (int kind = 2; kind <= 9; kind++) {
            int which = kind;
            if (rules[kind] > 0) {
                same("open " + kind, RefusalsTest::ordinary, -10 - rules[kind], x -> x.open(which));
            }
        }
        same("read 11", RefusalsTest::ordinary, -11, x -> x.read(11));
        same("read 12", RefusalsTest::ordinary, -11, x -> x.read(12));
        same("read 13", RefusalsTest::ordinary, -130, x -> x.read(13));
        same("apply", RefusalsTest::ordinary, -11, x -> x.apply(1));
    }

    private static void firstThatFits() {
        Check.says("the first that fits.");
        PackingHouse x = full();
        Check.due("no kind, no number", x.pack(0, 0), -2);
        Check.due("no kind, no number", x.open(0), -2);
        Check.due("no octet, no value", x.alter(6000, 256), -1);
        Check.due("n, and no room", x.feed(0, 9), -2);
        Check.due("kind, and no room", x.fill(9, 9, 9), -2);
        Check.due("no STREAM, no mode, no room", x.entry(13, 512, 0), -1);
        Check.due("no mode, no room", x.entry(1, 512, 0), -2);
        Check.due("a 0, and no room", x.name(0, 1), -2);
        Check.due("no ENTRY, no what", x.told(16, 9), -1);
        Check.due("no ENTRY, no number", x.extract(16), -1);
        Check.due("no token, no what", x.token(0, 9), -1);
        Check.due("no STREAM, no number", x.delta(1, 13), -1);
        Check.due("no STREAM, no number", x.apply(13), -1);
        Check.due("no part, no mask", x.spoil(4, 0, 256), -1);
        x.lose(0);
        Check.due("no mask, and lost", x.spoil(0, 0, 256), -2);
        Check.due("GONE, and no number", x.whole(), -3);
        Check.due("no SNAPSHOT, no number", x.restore(9), -1);
        Check.due("no level, no number", x.write(11, 1), -2);
    }
}

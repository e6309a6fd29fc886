import java.util.Arrays;

/**
 * A house for making octets fewer, and having them again.
 *
 * <p>Every row that a call needs is made with the object and used again, so that no call makes
 * anything: a run of calls takes no more room than its objects do.
 */
public final class PackingHouse {
    private static final int NONE = -1;
    private static final int OUTSIDE = -2;
    private static final int STATE = -3;
    private static final int ROOM = -4;
    private static final int FAULT = -10;

    private static final int TRAY_MOST = 6000;
    private static final int STREAM_MOST = 12000;
    private static final int STREAMS = 12;
    private static final int ENTRIES = 16;
    private static final int NAME_MOST = 100;
    private static final int MODE_MOST = 511;
    private static final long TIME_MOST = 0x7FFFFFFFL;
    private static final long WORD = 0xFFFFFFFFL;

    /** Stands where the document tells no bound: far above the bits that a TRAY has. */
    private static final int MANY = 1000000;

    private final Row tray = new Row(TRAY_MOST);
    private final Row[] streams = new Row[STREAMS + 1];
    private final boolean[] live = new boolean[STREAMS + 1];
    private final Row label = new Row(NAME_MOST);
    private final Row work = new Row(STREAM_MOST);
    private final Source source = new Source(tray);
    private final Finder finder = new Finder();
    private final Plain plain = new Plain();
    private final Copies copies = new Copies(finder, work);
    private final Blocks blocks = new Blocks(finder);
    private final Sorted sorted = new Sorted();
    private final Parts parts = new Parts();
    private final Store pieces = new Store();
    private Shelf shelf = new Shelf(blocks, work);
    private Shelf incoming = new Shelf(blocks, work);
    private int packedBits;
    private int faultRule;
    private int faultPlace;
    private int faultCount;

    public PackingHouse() {
        for (int i = 1; i <= STREAMS; i++) {
            streams[i] = new Row(STREAM_MOST);
        }
    }

    // ---- the TRAY

    public int feed(long v, int n) {
        if (n < 1 || n > 8) {
            return OUTSIDE;
        }
        if (n > TRAY_MOST - tray.count) {
            return ROOM;
        }
        tray.addHigh(v, n);
        return tray.count;
    }

    public int fill(int kind, int n, int seed) {
        if (kind < 0 || kind > 3 || n < 0) {
            return OUTSIDE;
        }
        if (n > TRAY_MOST - tray.count) {
            return ROOM;
        }
        int z = seed;
        for (int i = 0; i < n; i++) {
            z = z * 1664525 + 1013904223;
            tray.add(ruled(kind, z >>> 24));
        }
        return tray.count;
    }

    private int ruled(int kind, int r) {
        switch (kind) {
            case 1:
                return 97 + r % 4;
            case 2:
                return r < 240 ? tray.behind(17, r) : r;
            case 3:
                return r < 230 ? tray.behind(1, r) : r;
            default:
                return r;
        }
    }

    public int cut(int n) {
        if (n < 0 || n > tray.count) {
            return OUTSIDE;
        }
        int had = tray.count;
        tray.count = n;
        return had;
    }

    public int alter(int i, int v) {
        if (i < 0 || i >= tray.count) {
            return NONE;
        }
        if (v < 0 || v > 255) {
            return OUTSIDE;
        }
        int was = tray.cells[i];
        tray.cells[i] = v;
        return was;
    }

    public int octet(int i) {
        return i < 0 || i >= tray.count ? NONE : tray.cells[i];
    }

    public long sum(int kind) {
        switch (kind) {
            case 0:
                return Row.adler(tray.cells, 0, tray.count) & WORD;
            case 1:
                return Row.round(tray.cells, 0, tray.count) & WORD;
            case 2:
                return Row.turned(tray.cells, 0, tray.count) & WORD;
            case 3:
                return Row.mixed(tray.cells, 0, tray.count) & WORD;
            default:
                return OUTSIDE;
        }
    }

    // ---- STREAMS

    public int length(int stream) {
        return isLive(stream) ? streams[stream].count : NONE;
    }

    public int at(int stream, int i) {
        if (!isLive(stream) || i < 0 || i >= streams[stream].count) {
            return NONE;
        }
        return streams[stream].cells[i];
    }

    public int load(int stream) {
        if (!isLive(stream)) {
            return NONE;
        }
        if (streams[stream].count > TRAY_MOST) {
            return ROOM;
        }
        tray.clear();
        tray.addSpan(streams[stream].cells, 0, streams[stream].count);
        return tray.count;
    }

    public int drop(int stream) {
        if (!isLive(stream)) {
            return NONE;
        }
        live[stream] = false;
        return streams[stream].count;
    }

    public int differ(int stream, int other) {
        if (!isLive(stream) || !isLive(other)) {
            return NONE;
        }
        Row a = streams[stream];
        Row b = streams[other];
        int both = Math.min(a.count, b.count);
        for (int i = 0; i < both; i++) {
            if (a.cells[i] != b.cells[i]) {
                return i;
            }
        }
        return a.count == b.count ? NONE : both;
    }

    private boolean isLive(int stream) {
        return stream >= 1 && stream <= STREAMS && live[stream];
    }

    private int freeNumber() {
        for (int i = 1; i <= STREAMS; i++) {
            if (!live[i]) {
                return i;
            }
        }
        return 0;
    }

    /** A row is written before it is known whether it fits: only here does it become a STREAM. */
    private int settle(int number) {
        if (streams[number].over) {
            return ROOM;
        }
        live[number] = true;
        return number;
    }

    private int settleSpan(int[] cells, int from, int to) {
        int number = freeNumber();
        if (number == 0) {
            return ROOM;
        }
        streams[number].clear();
        streams[number].addSpan(cells, from, to);
        return settle(number);
    }

    // ---- packing, opening

    public int pack(int kind, int level) {
        boolean levels = kind >= 3 && kind <= 5;
        if (kind < 1 || kind > 10 || level < 0 || level > (levels ? 4 : 0)) {
            return OUTSIDE;
        }
        int number = freeNumber();
        if (number == 0) {
            return ROOM;
        }
        Row out = streams[number];
        out.clear();
        finder.forgetTokens();
        int blockBits = packKind(kind, level, out);
        int answer = settle(number);
        if (answer > 0) {
            packedBits = blockBits;
            finder.keepTokens();
        }
        return answer;
    }

    /** How many bits the BLOCKS have, if the kind has any. */
    private int packKind(int kind, int level, Row out) {
        switch (kind) {
            case 1:
                plain.packRuns(tray, out);
                return 0;
            case 2:
                plain.packWords(tray, out);
                return 0;
            case 3:
            case 4:
            case 5:
                blocks.headOut(kind, level, out);
                int made = blocks.packAll(tray, level, out);
                blocks.tailOut(kind, tray, out);
                return made;
            case 6:
                copies.packFast(tray, out);
                return 0;
            case 7:
                copies.packFrame(tray, out);
                return 0;
            case 8:
                copies.packCopies(tray, out);
                return 0;
            case 9:
                sorted.packSorted(tray, out);
                return 0;
            default:
                plain.packOdds(tray, out);
                return 0;
        }
    }

    public int open(int kind) {
        if (kind < 1 || kind > 10) {
            return OUTSIDE;
        }
        int number = freeNumber();
        if (number == 0) {
            return ROOM;
        }
        source.begin(tray.count, streams[number], kind == 9);
        openKind(kind);
        return settleOpening(number);
    }

    private void openKind(int kind) {
        switch (kind) {
            case 1:
                plain.openRuns(source);
                break;
            case 2:
                plain.openWords(source);
                break;
            case 3:
                blocks.openAll(source, Blocks.REACH);
                source.mustEnd();
                break;
            case 4:
                blocks.openRim(source);
                break;
            case 5:
                blocks.openMember(source);
                break;
            case 6:
                copies.openFast(source, false);
                break;
            case 7:
                copies.openFrame(source);
                break;
            case 8:
                copies.openCopies(source);
                break;
            case 9:
                sorted.openSorted(source);
                break;
            default:
                plain.openOdds(source);
                break;
        }
    }

    private int settleOpening(int number) {
        tellFault(streams[number].count);
        return faultRule == 0 ? settle(number) : FAULT - faultRule;
    }

    private void tellFault(int count) {
        faultRule = source.rule;
        faultPlace = source.place;
        faultCount = count;
    }

    public int fault(int what) {
        switch (what) {
            case 0:
                return faultRule;
            case 1:
                return faultPlace;
            case 2:
                return faultCount;
            default:
                return OUTSIDE;
        }
    }

    public int token(int i, int what) {
        if (i == -1) {
            return finder.keptTokens;
        }
        if (i < 0 || i >= finder.keptTokens) {
            return NONE;
        }
        switch (what) {
            case 0:
                return finder.keptSizes[i];
            case 1:
                return finder.keptGaps[i];
            case 2:
                return finder.keptPlaces[i];
            default:
                return OUTSIDE;
        }
    }

    public int bits() {
        return packedBits;
    }

    // ---- SHELVES

    public int name(long v, int n) {
        if (n < 0 || n > 8) {
            return OUTSIDE;
        }
        for (int i = 0; i < n; i++) {
            if ((v >>> (8 * i) & 255) == 0) {
                return OUTSIDE;
            }
        }
        if (n > NAME_MOST - label.count) {
            return ROOM;
        }
        if (n == 0) {
            label.clear();
        } else {
            label.addHigh(v, n);
        }
        return label.count;
    }

    public int entry(int stream, int mode, int time) {
        if (!isLive(stream)) {
            return NONE;
        }
        if (mode < 0 || mode > MODE_MOST || time < 0 || label.count == 0) {
            return OUTSIDE;
        }
        Row text = streams[stream];
        if (shelf.count >= ENTRIES || text.count > TRAY_MOST) {
            return ROOM;
        }
        shelf.addEntry(label, mode, time, text.cells, 0, text.count);
        label.clear();
        return shelf.count - 1;
    }

    public int write(int kind, int level) {
        if (kind < 11 || kind > 13 || level < 0 || level > (kind == 13 ? 4 : 0)) {
            return OUTSIDE;
        }
        if (kind == 12 && !shelf.fitsBench()) {
            return STATE;
        }
        int number = freeNumber();
        if (number == 0) {
            return ROOM;
        }
        Row out = streams[number];
        out.clear();
        switch (kind) {
            case 11:
                shelf.writeTape(out);
                break;
            case 12:
                shelf.writeBench(out);
                break;
            default:
                shelf.writeBox(out, level);
                break;
        }
        return settle(number);
    }

    public int read(int kind) {
        if (kind < 11 || kind > 13) {
            return OUTSIDE;
        }
        source.begin(tray.count, work, false);
        incoming.count = 0;
        switch (kind) {
            case 11:
                incoming.readTape(source);
                break;
            case 12:
                incoming.readBench(source);
                break;
            default:
                incoming.readBox(source);
                break;
        }
        tellFault(incoming.count);
        if (faultRule != 0) {
            return FAULT - faultRule;
        }
        Shelf before = shelf;
        shelf = incoming;
        incoming = before;
        return shelf.count;
    }

    public int told(int entry, int what) {
        if (entry < 0 || entry >= shelf.count) {
            return NONE;
        }
        switch (what) {
            case 0:
                return shelf.texts[entry].count;
            case 1:
                return shelf.modes[entry];
            case 2:
                return shelf.times[entry];
            case 3:
                return shelf.names[entry].count;
            case 4:
                return shelf.isUnsafe(entry) ? 1 : 0;
            default:
                return OUTSIDE;
        }
    }

    public int nameAt(int entry, int k) {
        if (entry < 0 || entry >= shelf.count || k < 0 || k >= shelf.names[entry].count) {
            return NONE;
        }
        return shelf.names[entry].cells[k];
    }

    public int extract(int entry) {
        if (entry < 0 || entry >= shelf.count) {
            return NONE;
        }
        return settleSpan(shelf.texts[entry].cells, 0, shelf.texts[entry].count);
    }

    public int wipe() {
        int had = shelf.count;
        shelf.count = 0;
        return had;
    }

    // ---- DELTAS

    public int delta(int stream, int other) {
        if (!isLive(stream) || !isLive(other)) {
            return NONE;
        }
        int number = freeNumber();
        if (number == 0) {
            return ROOM;
        }
        streams[number].clear();
        copies.packDelta(streams[stream], streams[other], streams[number]);
        return settle(number);
    }

    public int apply(int stream) {
        if (!isLive(stream)) {
            return NONE;
        }
        int number = freeNumber();
        if (number == 0) {
            return ROOM;
        }
        source.begin(tray.count, streams[number], false);
        copies.openDelta(source, streams[stream]);
        return settleOpening(number);
    }

    // ---- PARTS

    public int protect(int data, int checks) {
        if (data < 1 || data > Parts.DATA_MOST || checks < 0 || checks > Parts.CHECKS_MOST) {
            return OUTSIDE;
        }
        parts.make(tray, data, checks);
        return parts.size;
    }

    public int part(int part, int i) {
        if (!parts.has(part, i)) {
            return NONE;
        }
        return parts.lost[part] ? 0 : parts.cells[part * parts.size + i];
    }

    public int lose(int part) {
        if (!parts.has(part, 0)) {
            return NONE;
        }
        boolean was = parts.lost[part];
        parts.lost[part] = true;
        return was ? 0 : 1;
    }

    public int spoil(int part, int i, int mask) {
        if (!parts.has(part, i)) {
            return NONE;
        }
        if (mask < 0 || mask > 255) {
            return OUTSIDE;
        }
        if (parts.lost[part]) {
            return STATE;
        }
        int place = part * parts.size + i;
        int was = parts.cells[place];
        parts.cells[place] = was ^ mask;
        return was;
    }

    public int repair() {
        if (!parts.has(0, 0)) {
            return NONE;
        }
        int gone = parts.markGone();
        if (gone > parts.checks) {
            return STATE;
        }
        parts.haveAgain();
        return gone;
    }

    public int whole() {
        if (!parts.has(0, 0)) {
            return NONE;
        }
        parts.markGone();
        if (parts.missCount > 0) {
            return STATE;
        }
        return settleSpan(parts.cells, 0, parts.total);
    }

    // ---- the STORE

    public int save() {
        if (pieces.snapshots >= Store.SNAPSHOTS_MOST) {
            return ROOM;
        }
        return pieces.keep(tray) ? pieces.number : ROOM;
    }

    public int restore(int snapshot) {
        int row = pieces.find(snapshot);
        if (row < 0) {
            return NONE;
        }
        int number = freeNumber();
        if (number == 0) {
            return ROOM;
        }
        streams[number].clear();
        pieces.copyOut(row, streams[number]);
        return settle(number);
    }

    public int forget(int snapshot) {
        int row = pieces.find(snapshot);
        return row < 0 ? NONE : pieces.leave(row);
    }

    public int shared(int snapshot, int other) {
        int row = pieces.find(snapshot);
        int otherRow = pieces.find(other);
        return row < 0 || otherRow < 0 ? NONE : pieces.countBoth(row, otherRow);
    }

    public int store(int what) {
        switch (what) {
            case 0:
                return pieces.blockCount;
            case 1:
                return pieces.octetCount;
            case 2:
                return pieces.snapshots;
            default:
                return OUTSIDE;
        }
    }

    /** Octets with a most; what does not fit is not written, but told by 'over'. */
    private static final class Row {
        private static final int[] ROUND_STEPS = {
            0x00000000, 0x1DB71064, 0x3B6E20C8, 0x26D930AC, 0x76DC4190, 0x6B6B51F4, 0x4DB26158, 0x5005713C,
            0xEDB88320, 0xF00F9344, 0xD6D6A3E8, 0xCB61B38C, 0x9B64C2B0, 0x86D3D2D4, 0xA00AE278, 0xBDBDF21C
        };
        private static final int[] TURNED_STEPS = {
            0x00000000, 0x04C11DB7, 0x09823B6E, 0x0D4326D9, 0x130476DC, 0x17C56B6B, 0x1A864DB2, 0x1E475005,
            0x2608EDB8, 0x22C9F00F, 0x2F8AD6D6, 0x2B4BCB61, 0x350C9B64, 0x31CD86D3, 0x3C8EA00A, 0x384FBDBD
        };
        private static final int P1 = 0x9E3779B1;
        private static final int P2 = 0x85EBCA77;
        private static final int P3 = 0xC2B2AE3D;
        private static final int P4 = 0x27D4EB2F;
        private static final int P5 = 0x165667B1;

        final int[] cells;
        int count;
        boolean over;
        /** How many bits of the last octet are not written yet. */
        int spare;

        Row(int most) {
            cells = new int[Math.max(0, most)];
        }

        void clear() {
            count = 0;
            over = false;
            spare = 0;
        }

        void add(int v) {
            if (count < 0 || count >= cells.length) {
                over = true;
                return;
            }
            cells[count] = v & 255;
            count++;
        }

        void addLow(long v, int octets) {
            for (int i = 0; i < octets; i++) {
                add((int) (v >>> (8 * i)));
            }
        }

        void addHigh(long v, int octets) {
            for (int i = octets - 1; i >= 0; i--) {
                add((int) (v >>> (8 * i)));
            }
        }

        void addSpan(int[] from, int begin, int end) {
            int many = Math.min(end, from.length) - begin;
            if (begin < 0 || many <= 0) {
                return;
            }
            if (many > cells.length - count) {
                over = true;
                return;
            }
            System.arraycopy(from, begin, cells, count, many);
            count += many;
        }

        /** By octets of 7 bits, the lowest first. */
        void addSevens(int v) {
            int rest = v;
            for (int i = 0; i < 5 && rest > 127; i++) {
                add(128 | rest & 127);
                rest >>>= 7;
            }
            add(rest);
        }

        int behind(int distance, int otherwise) {
            return distance > 0 && distance <= count ? cells[count - distance] : otherwise;
        }

        void lowBits(int v, int n) {
            int rest = v;
            int left = n;
            for (int i = 0; i < 32 && left > 0; i++) {
                if (spare == 0) {
                    add(0);
                    spare = 8;
                }
                int some = Math.min(spare, left);
                int piece = rest & (1 << some) - 1;
                if (count > 0 && !over) {
                    cells[count - 1] |= piece << (8 - spare);
                }
                rest >>>= some;
                left -= some;
                spare -= some;
            }
        }

        void highBits(long v, int n) {
            int left = n;
            for (int i = 0; i < 64 && left > 0; i++) {
                if (spare == 0) {
                    add(0);
                    spare = 8;
                }
                int some = Math.min(spare, left);
                int piece = (int) (v >>> (left - some)) & (1 << some) - 1;
                if (count > 0 && !over) {
                    cells[count - 1] |= piece << (spare - some);
                }
                left -= some;
                spare -= some;
            }
        }

        void closeOctet() {
            spare = 0;
        }

        static int adler(int[] cells, int from, int to) {
            int a = 1;
            int b = 0;
            for (int i = from; i < to; i++) {
                a += cells[i];
                if (a >= 65521) {
                    a -= 65521;
                }
                b += a;
                if (b >= 65521) {
                    b -= 65521;
                }
            }
            return b * 65536 + a;
        }

        static int round(int[] cells, int from, int to) {
            int r = -1;
            for (int i = from; i < to; i++) {
                r ^= cells[i];
                r = r >>> 4 ^ ROUND_STEPS[r & 15];
                r = r >>> 4 ^ ROUND_STEPS[r & 15];
            }
            return ~r;
        }

        static int turned(int[] cells, int from, int to) {
            int r = -1;
            for (int i = from; i < to; i++) {
                r ^= cells[i] << 24;
                r = r << 4 ^ TURNED_STEPS[r >>> 28];
                r = r << 4 ^ TURNED_STEPS[r >>> 28];
            }
            return ~r;
        }

        static int mixed(int[] cells, int from, int to) {
            int p = from;
            int h = P5;
            if (to - from >= 16) {
                int a = P1 + P2;
                int b = P2;
                int c = 0;
                int d = -P1;
                for (; p + 16 <= to; p += 16) {
                    a = rotated(a + word(cells, p) * P2, 13) * P1;
                    b = rotated(b + word(cells, p + 4) * P2, 13) * P1;
                    c = rotated(c + word(cells, p + 8) * P2, 13) * P1;
                    d = rotated(d + word(cells, p + 12) * P2, 13) * P1;
                }
                h = rotated(a, 1) + rotated(b, 7) + rotated(c, 12) + rotated(d, 18);
            }
            h += to - from;
            for (; p + 4 <= to; p += 4) {
                h = rotated(h + word(cells, p) * P3, 17) * P4;
            }
            for (; p < to; p++) {
                h = rotated(h + cells[p] * P5, 11) * P1;
            }
            h = (h ^ h >>> 15) * P2;
            h = (h ^ h >>> 13) * P3;
            return h ^ h >>> 16;
        }

        private static int word(int[] cells, int p) {
            return cells[p] | cells[p + 1] << 8 | cells[p + 2] << 16 | cells[p + 3] << 24;
        }

        static int rotated(int v, int by) {
            return v << by | v >>> (32 - by);
        }

        /** A number of some octets, LOW FIRST. */
        static long low(int[] cells, int p, int octets) {
            long v = 0;
            for (int i = 0; i < octets && p + i >= 0 && p + i < cells.length; i++) {
                v |= (long) cells[p + i] << (8 * i);
            }
            return v;
        }
    }

    /** The TRAY as it is read, and what comes out; the first RULE that is told stays. */
    private static final class Source {
        final int[] cells;
        Row out;
        int end;
        int next;
        int last;
        int rule;
        int place;
        private boolean high;
        private int held;
        private int hold;

        Source(Row tray) {
            cells = tray.cells;
            out = tray;
        }

        void begin(int size, Row to, boolean highRow) {
            out = to;
            out.clear();
            end = Math.min(size, cells.length);
            next = 0;
            last = 0;
            rule = 0;
            place = 0;
            high = highRow;
            held = 0;
        }

        /** Only octets from .. to - 1 are there to be read. */
        void window(int from, int to) {
            next = from;
            end = to;
            held = 0;
        }

        void tell(int which) {
            if (rule == 0) {
                rule = which;
                place = last;
            }
        }

        void tellAt(int which, int where) {
            if (rule == 0) {
                rule = which;
                place = where;
            }
        }

        void mustEnd() {
            if (next < end) {
                tellAt(14, next);
            }
        }

        int take() {
            if (rule != 0) {
                return 0;
            }
            if (next < 0 || next >= end || next >= cells.length) {
                rule = 1;
                place = end;
                return 0;
            }
            last = next;
            next++;
            return cells[last];
        }

        void pass(int octets) {
            for (int i = 0; i < octets && rule == 0; i++) {
                take();
            }
        }

        void expect(int octet, int otherwise) {
            int got = take();
            if (got != octet) {
                tell(otherwise);
            }
        }

        long takeLow(int octets) {
            long v = 0;
            for (int i = 0; i < octets; i++) {
                v |= (long) take() << (8 * i);
            }
            return v;
        }

        long takeHigh(int octets) {
            long v = 0;
            for (int i = 0; i < octets; i++) {
                v = v << 8 | take();
            }
            return v;
        }

        long takeSevens() {
            long v = 0;
            for (int i = 0; i < 5; i++) {
                int octet = take();
                if (i == 4 && octet > 15) {
                    tell(51);
                }
                v |= (long) (octet & 127) << (7 * i);
                if (rule != 0 || octet < 128) {
                    break;
                }
            }
            return v;
        }

        /** The rest of an octet that was begun is passed over. */
        void closeOctet() {
            held = 0;
        }

        long takeBits(int n) {
            long v = 0;
            for (int i = 0; i < n; i++) {
                if (held == 0) {
                    hold = take();
                    held = 8;
                }
                if (rule != 0) {
                    return 0;
                }
                if (high) {
                    v = v << 1 | hold >> (held - 1) & 1;
                } else {
                    v |= (long) (hold >> (8 - held) & 1) << i;
                }
                held--;
            }
            return v;
        }

        /** A symbol of a PREFIX CODE; below 0 if a RULE is told. */
        int symbol(Code code, int otherwise) {
            int value = 0;
            int first = 0;
            int index = 0;
            for (int n = 1; n <= code.greatest; n++) {
                if (held == 0) {
                    hold = take();
                    held = 8;
                }
                if (rule != 0) {
                    return -1;
                }
                value |= (high ? hold >> (held - 1) : hold >> (8 - held)) & 1;
                held--;
                int many = code.perLength[n];
                if (value - first < many) {
                    return code.ordered[index + value - first];
                }
                index += many;
                first = (first + many) << 1;
                value <<= 1;
            }
            tell(otherwise);
            return -1;
        }

        void emit(int v) {
            if (rule != 0) {
                return;
            }
            if (out.count >= STREAM_MOST || out.count >= out.cells.length) {
                rule = 13;
                place = last;
                return;
            }
            out.cells[out.count] = v & 255;
            out.count++;
        }

        void emitTaken(long many) {
            for (long i = 0; i < many && rule == 0; i++) {
                emit(take());
            }
        }

        void emitTimes(int v, int many) {
            for (int i = 0; i < many && rule == 0; i++) {
                emit(v);
            }
        }

        void emitCopy(long distance, long size) {
            for (long i = 0; i < size && rule == 0; i++) {
                emit(distance > 0 && distance <= out.count ? out.cells[out.count - (int) distance] : 0);
            }
        }
    }

    /** A PREFIX CODE, for writing and for reading. */
    private static final class Code {
        private static final int SYMBOLS = 288;
        private static final int LONGEST = 20;
        private static final int FULL = 1 << LONGEST;

        final int[] lengths = new int[SYMBOLS];
        /** The highest bit first, as a number of a HIGH ROW. */
        final int[] codes = new int[SYMBOLS];
        /** Turned round, as a number of a LOW ROW. */
        final int[] mirrored = new int[SYMBOLS];
        final int[] ordered = new int[SYMBOLS];
        final int[] perLength = new int[LONGEST + 1];
        int greatest;
        private int used;
        private int share;
        private final int[] nextCode = new int[LONGEST + 2];
        private final int[] nextPlace = new int[LONGEST + 2];
        private final int[] counts = new int[SYMBOLS];
        private final int[] weights = new int[2 * SYMBOLS];
        private final int[] above = new int[2 * SYMBOLS];

        /** The lengths of symbols 0 .. n - 1 stand: the codes are made. */
        void settle(int n) {
            Arrays.fill(perLength, 0);
            used = 0;
            share = 0;
            greatest = 0;
            for (int s = 0; s < n; s++) {
                int size = lengths[s];
                if (size > 0) {
                    perLength[size]++;
                    used++;
                    share += FULL >> size;
                    greatest = Math.max(greatest, size);
                }
            }
            nextCode[1] = 0;
            nextPlace[1] = 0;
            for (int size = 1; size <= LONGEST; size++) {
                nextCode[size + 1] = (nextCode[size] + perLength[size]) << 1;
                nextPlace[size + 1] = nextPlace[size] + perLength[size];
            }
            for (int s = 0; s < n; s++) {
                int size = lengths[s];
                if (size > 0) {
                    codes[s] = nextCode[size];
                    mirrored[s] = mirror(codes[s], size);
                    ordered[nextPlace[size]] = s;
                    nextCode[size]++;
                    nextPlace[size]++;
                }
            }
        }

        private static int mirror(int v, int n) {
            int turned = 0;
            for (int i = 0; i < n; i++) {
                turned = turned << 1 | v >> i & 1;
            }
            return turned;
        }

        boolean isFull() {
            return share == FULL;
        }

        boolean isOver() {
            return share > FULL;
        }

        boolean isEmpty() {
            return used == 0;
        }

        boolean isSingle() {
            return used == 1 && perLength[1] == 1;
        }

        /** LENGTHS BY COUNTS of symbols 0 .. n - 1. */
        void byCounts(int[] tally, int n, int limit) {
            for (int s = 0; s < n; s++) {
                counts[s] = tally[s];
            }
            // halving ends: when all counts are 1 no length is above 9
            for (int round = 0; round < 40; round++) {
                int leaves = orderLeaves(n);
                joinAll(leaves);
                tellLengths(n, leaves);
                settle(n);
                if (greatest <= limit) {
                    return;
                }
                for (int s = 0; s < n; s++) {
                    counts[s] = (counts[s] + 1) / 2;
                }
            }
        }

        private void joinAll(int leaves) {
            for (int i = 0; i < leaves; i++) {
                weights[i] = counts[ordered[i]];
            }
            int leaf = 0;
            int joined = leaves;
            for (int next = leaves; next < 2 * leaves - 1; next++) {
                weights[next] = 0;
                for (int k = 0; k < 2; k++) {
                    // of the same count leaves come first; what was joined stands in the order of joining
                    boolean isLeaf = leaf < leaves && (joined >= next || weights[leaf] <= weights[joined]);
                    int least = isLeaf ? leaf++ : joined++;
                    above[least] = next;
                    weights[next] += weights[least];
                }
            }
        }

        /** Leaves by their counts, of the same count in the order of symbols. */
        private int orderLeaves(int n) {
            int leaves = 0;
            for (int s = 0; s < n; s++) {
                if (counts[s] > 0) {
                    int i = leaves;
                    for (; i > 0 && counts[ordered[i - 1]] > counts[s]; i--) {
                        ordered[i] = ordered[i - 1];
                    }
                    ordered[i] = s;
                    leaves++;
                }
            }
            return leaves;
        }

        private void tellLengths(int n, int leaves) {
            for (int s = 0; s < n; s++) {
                lengths[s] = 0;
            }
            if (leaves == 1) {
                lengths[ordered[0]] = 1;
            }
            if (leaves < 2) {
                return;
            }
            // from the last joining down, what an item hangs on has its depth already
            above[2 * leaves - 2] = 0;
            for (int i = 2 * leaves - 3; i >= 0; i--) {
                above[i] = above[above[i]] + 1;
                if (i < leaves) {
                    // one too long for any row is only told as too long
                    lengths[ordered[i]] = Math.min(above[i], LONGEST);
                }
            }
        }
    }

    /** MATCHES in a text, and the parse that is made of them. */
    private static final class Finder {
        static final int UNCUT = 0;
        static final int CUT_BY_SPANS = 1;
        static final int CUT_BEFORE_TAIL = 2;
        static final int SPAN = 2000;
        private static final int HEADS = 8192;
        private static final int SIZE_MOST = 258;
        private static final int DELTA_LEAST = 8;

        private final int[] heads = new int[HEADS];
        private final int[] chain = new int[STREAM_MOST];
        private int[] cells = heads;
        private int size;
        /** With the size that was found last: its distance, or in a DELTA its place. */
        int found;

        final int[] sizes = new int[TRAY_MOST];
        final int[] gaps = new int[TRAY_MOST];
        final int[] places = new int[TRAY_MOST];
        int tokens;
        final int[] keptSizes = new int[TRAY_MOST];
        final int[] keptGaps = new int[TRAY_MOST];
        final int[] keptPlaces = new int[TRAY_MOST];
        int keptTokens;

        private final int[] costs = new int[TRAY_MOST + 1];
        private final int[] cheapSizes = new int[TRAY_MOST];
        private final int[] cheapGaps = new int[TRAY_MOST];

        void forgetTokens() {
            tokens = 0;
        }

        /** write() makes parses, too: only those of pack() are kept to be told. */
        void keepTokens() {
            keptTokens = tokens;
            System.arraycopy(sizes, 0, keptSizes, 0, tokens);
            System.arraycopy(gaps, 0, keptGaps, 0, tokens);
            System.arraycopy(places, 0, keptPlaces, 0, tokens);
        }

        private void addToken(int place, int length, int distance) {
            if (tokens < TRAY_MOST) {
                sizes[tokens] = length;
                gaps[tokens] = distance;
                places[tokens] = place;
                tokens++;
            }
        }

        /** Each place is chained to the one before it whose three octets may be the same. */
        private void chainUp(Row text) {
            cells = text.cells;
            size = Math.min(text.count, TRAY_MOST);
            tokens = 0;
            Arrays.fill(heads, -1);
            for (int p = 0; p < size; p++) {
                chain[p] = -1;
                if (p + 3 <= size) {
                    int head = ((cells[p] * 33 + cells[p + 1]) * 33 + cells[p + 2]) & HEADS - 1;
                    chain[p] = heads[head];
                    heads[head] = p;
                }
            }
        }

        private int alike(int from, int to, int limit) {
            int n = 0;
            for (; n < limit && cells[from + n] == cells[to + n]; n++) {
            }
            return n;
        }

        /** The LONGEST match at a place, or 0. A TRAY is shorter than every reach. */
        private int longest(int p, int least, int most) {
            int limit = Math.min(most, size - p);
            if (limit < least) {
                return 0;
            }
            int best = least - 1;
            int q = chain[p];
            for (int i = 0; i < size && q >= 0 && best < limit; i++) {
                if (cells[q + best] == cells[p + best]) {
                    int n = alike(q, p, limit);
                    if (n > best) {
                        best = n;
                        found = p - q;
                    }
                }
                q = chain[q];
            }
            return best < least ? 0 : best;
        }

        void greedy(Row text, int least, int most, int cutting) {
            chainUp(text);
            int p = 0;
            for (int i = 0; i < size && p < size; i++) {
                int n = Math.min(longest(p, least, most), furthest(p, cutting) - p);
                if (n < least) {
                    addToken(p, 1, 0);
                    p++;
                } else {
                    addToken(p, n, found);
                    p += n;
                }
            }
        }

        /** Where a match that begins at a place has to end. */
        private int furthest(int p, int cutting) {
            switch (cutting) {
                case CUT_BY_SPANS:
                    return Math.min(size, (p / SPAN + 1) * SPAN);
                case CUT_BEFORE_TAIL:
                    return p > size - 12 ? p : size - 5;
                default:
                    return size;
            }
        }

        void lazy(Row text) {
            chainUp(text);
            int p = 0;
            int n = longest(0, 3, SIZE_MOST);
            int gap = found;
            for (int i = 0; i < size && p < size; i++) {
                int then = n == 0 ? 0 : longest(p + 1, 3, SIZE_MOST);
                if (n == 0) {
                    addToken(p, 1, 0);
                    p++;
                    n = longest(p, 3, SIZE_MOST);
                } else if (then > n) {
                    addToken(p, 1, 0);
                    p++;
                    n = then;
                } else {
                    addToken(p, n, gap);
                    p += n;
                    n = longest(p, 3, SIZE_MOST);
                }
                gap = found;
            }
        }

        /** The parse with the fewest bits in a FIXED block. */
        void fewest(Row text, int[] sizePrices) {
            chainUp(text);
            costs[size] = 0;
            int longer = SIZE_MOST;
            for (int p = size - 1; p >= 0; p--) {
                // a match at one place is, less its first octet, one at the next place: none is longer than that
                longer = 1 + cheapest(p, sizePrices, longer);
            }
            int p = 0;
            for (int i = 0; i < size && p < size; i++) {
                addToken(p, cheapSizes[p], cheapGaps[p]);
                p += cheapSizes[p];
            }
        }

        /**
         * What follows is priced already; only what is really cheaper takes the place of what came before.
         * Tells how long the matches at the place get, or 2.
         */
        private int cheapest(int p, int[] sizePrices, int most) {
            int limit = Math.min(Math.min(SIZE_MOST, most), size - p);
            costs[p] = (cells[p] < 144 ? 8 : 9) + costs[p + 1];
            cheapSizes[p] = 1;
            cheapGaps[p] = 0;
            int best = 2;
            int q = chain[p];
            for (int i = 0; i < size && q >= 0 && best < limit; i++) {
                int n = cells[q + best] == cells[p + best] ? alike(q, p, limit) : 0;
                int price = n > best ? Blocks.gapPrice(p - q) : 0;
                for (int s = best + 1; s <= n; s++) {
                    int cost = price + sizePrices[s] + costs[p + s];
                    if (cost < costs[p]) {
                        costs[p] = cost;
                        cheapSizes[p] = s;
                        cheapGaps[p] = p - q;
                    }
                }
                best = Math.max(best, n);
                q = chain[q];
            }
            return best;
        }

        private static int eightsHead(int[] cells, int p) {
            int h = 0;
            for (int i = 0; i < DELTA_LEAST; i++) {
                h = h * 31 + cells[p + i];
            }
            return (h ^ h >>> 13) & HEADS - 1;
        }

        /** Places of the first text of a DELTA are chained from the least one up. */
        void chainFirst(Row first) {
            cells = first.cells;
            size = first.count;
            Arrays.fill(heads, -1);
            for (int p = size - DELTA_LEAST; p >= 0; p--) {
                int head = eightsHead(cells, p);
                chain[p] = heads[head];
                heads[head] = p;
            }
        }

        int longestInFirst(Row other, int p) {
            int rest = other.count - p;
            if (rest < DELTA_LEAST) {
                return 0;
            }
            int best = DELTA_LEAST - 1;
            int q = heads[eightsHead(other.cells, p)];
            for (int i = 0; i < size && q >= 0 && best < rest; i++) {
                int limit = Math.min(rest, size - q);
                if (best < limit && cells[q + best] == other.cells[p + best]) {
                    int n = 0;
                    for (; n < limit && cells[q + n] == other.cells[p + n]; n++) {
                    }
                    if (n > best) {
                        best = n;
                        found = q;
                    }
                }
                q = chain[q];
            }
            return best < DELTA_LEAST ? 0 : best;
        }
    }

    /** RUNS, WORDS and ODDS. */
    private static final class Plain {
        private static final int CLEAR = 256;
        private static final int END = 257;
        private static final int WORDS = 4096;
        private static final int WORD_CODES = 3838;
        private static final int LEAST_RANGE = 1 << 24;

        private final int[] firstChild = new int[WORDS];
        private final int[] nextChild = new int[WORDS];
        private final int[] lastOctet = new int[WORDS];
        private final int[] wordPlace = new int[WORDS];
        private final int[] wordSize = new int[WORDS];
        private final int[] odds = new int[256 * 256];
        private long low;
        private long range;
        private long code;

        void packRuns(Row text, Row out) {
            int p = 0;
            for (int i = 0; i < text.count && p < text.count; i++) {
                int run = alike(text, p, 128);
                if (run >= 3) {
                    out.add(257 - run);
                    out.add(text.cells[p]);
                    p += run;
                } else {
                    int q = p + 1;
                    for (; q < text.count && q - p < 128 && alike(text, q, 3) < 3; q++) {
                    }
                    out.add(q - p - 1);
                    out.addSpan(text.cells, p, q);
                    p = q;
                }
            }
        }

        private static int alike(Row text, int p, int most) {
            int n = 1;
            for (; n < most && p + n < text.count && text.cells[p + n] == text.cells[p]; n++) {
            }
            return n;
        }

        void openRuns(Source in) {
            for (int i = 0; i < MANY && in.rule == 0 && in.next < in.end; i++) {
                int c = in.take();
                if (c < 128) {
                    in.emitTaken(c + 1);
                } else if (c > 128) {
                    in.emitTimes(in.take(), 257 - c);
                }
            }
        }

        private static int width(int number) {
            int most = 257 + number;
            return most < 512 ? 9 : most < 1024 ? 10 : most < 2048 ? 11 : 12;
        }

        void packWords(Row text, Row out) {
            Arrays.fill(firstChild, 0);
            out.lowBits(CLEAR, 9);
            int number = 0;
            int before = 0;
            int p = 0;
            for (int i = 0; i < text.count && p < text.count; i++) {
                if (number > 0) {
                    addWord(before, text.cells[p], END + number);
                }
                int word = text.cells[p];
                p++;
                int longer = p < text.count ? longerWord(word, text.cells[p]) : 0;
                for (int k = 0; k < text.count && longer > 0; k++) {
                    word = longer;
                    p++;
                    longer = p < text.count ? longerWord(word, text.cells[p]) : 0;
                }
                out.lowBits(word, width(number));
                before = word;
                number++;
                if (number == WORD_CODES) {
                    out.lowBits(CLEAR, width(number));
                    Arrays.fill(firstChild, 0);
                    number = 0;
                }
            }
            out.lowBits(END, width(number));
            out.closeOctet();
        }

        private void addWord(int before, int octet, int word) {
            if (word < WORDS) {
                lastOctet[word] = octet;
                nextChild[word] = firstChild[before];
                firstChild[before] = word;
                firstChild[word] = 0;
            }
        }

        private int longerWord(int word, int octet) {
            int child = firstChild[word];
            for (int i = 0; i < 256 && child > 0 && lastOctet[child] != octet; i++) {
                child = nextChild[child];
            }
            return child;
        }

        void openWords(Source in) {
            int number = -1;
            int before = 0;
            for (int i = 0; i < MANY && in.rule == 0; i++) {
                int word = (int) in.takeBits(number < 0 ? 9 : width(number));
                int begin = in.out.count;
                if (in.rule != 0) {
                    return;
                }
                if (word == CLEAR) {
                    number = 0;
                } else if (number < 0) {
                    in.tell(60);
                } else if (word == END) {
                    in.mustEnd();
                    return;
                } else if (number > WORD_CODES) {
                    in.tell(62);
                } else {
                    openWord(in, word, number, before);
                    before = begin;
                    number++;
                }
            }
        }

        /** What an entry stands for came out once in one piece, behind what the code before stood for. */
        private void openWord(Source in, int word, int number, int before) {
            if (number > 0 && END + number < WORDS) {
                wordPlace[END + number] = before;
                wordSize[END + number] = in.out.count - before + 1;
            }
            if (word < 256) {
                in.emit(word);
            } else if (number == 0 || word > END + number) {
                in.tell(61);
            } else {
                in.emitCopy(in.out.count - wordPlace[word], wordSize[word]);
            }
        }

        void packOdds(Row text, Row out) {
            out.addHigh(text.count, 2);
            Arrays.fill(odds, 1024);
            low = 0;
            range = WORD;
            int before = 0;
            for (int i = 0; i < text.count; i++) {
                int octet = text.cells[i];
                int node = 1;
                for (int k = 7; k >= 0; k--) {
                    int bit = octet >> k & 1;
                    packBit(before * 256 + node, bit, out);
                    node = node * 2 + bit;
                }
                before = octet;
            }
            out.addHigh(low, 4);
        }

        private void packBit(int which, int bit, Row out) {
            long bound = (range >>> 11) * odds[which];
            if (bit == 0) {
                range = bound;
            } else {
                low += bound;
                range -= bound;
            }
            moveOdds(which, bit);
            if (low > WORD) {
                low &= WORD;
                carry(out);
            }
            for (int i = 0; i < 4 && range < LEAST_RANGE; i++) {
                out.add((int) (low >>> 24));
                low = low << 8 & WORD;
                range <<= 8;
            }
        }

        private static void carry(Row out) {
            int p = out.count - 1;
            for (; p > 2 && out.cells[p] == 255; p--) {
                out.cells[p] = 0;
            }
            if (p >= 2) {
                out.cells[p] = out.cells[p] + 1 & 255;
            }
        }

        private void moveOdds(int which, int bit) {
            if (bit == 0) {
                odds[which] += (2048 - odds[which]) / 32;
            } else {
                odds[which] -= odds[which] / 32;
            }
        }

        void openOdds(Source in) {
            int many = (int) in.takeHigh(2);
            code = in.takeHigh(4);
            range = WORD;
            Arrays.fill(odds, 1024);
            int before = 0;
            for (int i = 0; i < many && in.rule == 0; i++) {
                int node = 1;
                for (int k = 0; k < 8; k++) {
                    node = node * 2 + openBit(before * 256 + node, in);
                }
                before = node & 255;
                in.emit(before);
            }
            in.mustEnd();
        }

        private int openBit(int which, Source in) {
            long bound = (range >>> 11) * odds[which];
            int bit = code < bound ? 0 : 1;
            if (bit == 0) {
                range = bound;
            } else {
                code -= bound;
                range -= bound;
            }
            moveOdds(which, bit);
            for (int i = 0; i < 4 && range < LEAST_RANGE; i++) {
                code = (code << 8 | in.take()) & WORD;
                range <<= 8;
            }
            return bit;
        }
    }

    /** FAST, FRAME, COPIES and DELTAS: literals and copies in octets. */
    private static final class Copies {
        private static final int BLOCK_MOST = 65536;

        private final Finder finder;
        private final Row work;
        private int flags;
        private long toldSize;

        Copies(Finder finder, Row work) {
            this.finder = finder;
            this.work = work;
        }

        void packFast(Row text, Row out) {
            finder.greedy(text, 4, TRAY_MOST, Finder.CUT_BEFORE_TAIL);
            int from = 0;
            for (int i = 0; i < finder.tokens; i++) {
                if (finder.gaps[i] > 0) {
                    int more = finder.sizes[i] - 4;
                    fastLiterals(text, from, finder.places[i], Math.min(more, 15), out);
                    out.addLow(finder.gaps[i], 2);
                    fastMore(more, out);
                    from = finder.places[i] + finder.sizes[i];
                }
            }
            fastLiterals(text, from, text.count, 0, out);
        }

        private static void fastLiterals(Row text, int from, int to, int lowBits, Row out) {
            out.add(Math.min(to - from, 15) << 4 | lowBits);
            fastMore(to - from, out);
            out.addSpan(text.cells, from, to);
        }

        private static void fastMore(int v, Row out) {
            if (v < 15) {
                return;
            }
            int rest = v - 15;
            for (; rest >= 255; rest -= 255) {
                out.add(255);
            }
            out.add(rest);
        }

        /** Octets of the window; 'alone' asks that no copy reaches behind what came out before. */
        void openFast(Source in, boolean alone) {
            int floor = in.out.count;
            for (int i = 0; i < MANY && in.rule == 0; i++) {
                int head = in.take();
                in.emitTaken(openMore(in, head >> 4));
                if (in.rule != 0 || in.next >= in.end) {
                    return;
                }
                int gap = (int) in.takeLow(2);
                if (in.rule == 0 && alone && gap > in.out.count - floor) {
                    in.tell(42);
                }
                if (in.rule == 0 && (gap == 0 || gap > in.out.count)) {
                    in.tell(41);
                }
                in.emitCopy(gap, openMore(in, head & 15) + 4);
            }
        }

        private static int openMore(Source in, int four) {
            int v = four;
            int more = four == 15 ? 255 : 0;
            for (int i = 0; i < MANY && more == 255 && in.rule == 0; i++) {
                more = in.take();
                v += more;
            }
            return v;
        }

        void packFrame(Row text, Row out) {
            out.addLow(0x184D2204L, 4);
            out.add(100);
            out.add(64);
            out.add(Row.mixed(out.cells, 4, 6) >>> 8);
            work.clear();
            packFast(text, work);
            if (text.count > 0 && work.count < text.count && !work.over) {
                out.addLow(work.count, 4);
                out.addSpan(work.cells, 0, work.count);
            } else if (text.count > 0) {
                out.addLow(text.count | 0x80000000L, 4);
                out.addSpan(text.cells, 0, text.count);
            }
            out.addLow(0, 4);
            out.addLow(Row.mixed(text.cells, 0, text.count), 4);
        }

        void openFrame(Source in) {
            openFrameHead(in);
            for (int i = 0; i < MANY && in.rule == 0; i++) {
                long word = in.takeLow(4);
                if (word == 0) {
                    break;
                }
                openFrameBlock(in, word);
            }
            if (in.rule == 0 && (flags & 4) != 0) {
                long told = in.takeLow(4);
                if (told != (Row.mixed(in.out.cells, 0, in.out.count) & WORD)) {
                    in.tell(47);
                }
            }
            if ((flags & 8) != 0 && toldSize != in.out.count) {
                in.tell(48);
            }
            in.mustEnd();
        }

        private void openFrameHead(Source in) {
            in.expect(4, 43);
            in.expect(34, 43);
            in.expect(77, 43);
            in.expect(24, 43);
            flags = in.take();
            if (flags >> 6 != 1 || (flags & 3) != 0) {
                in.tell(44);
            }
            int most = in.take();
            if ((most & 0x8F) != 0 || most < 64) {
                in.tell(44);
            }
            toldSize = (flags & 8) != 0 ? in.takeLow(8) : 0;
            if (in.rule == 0) {
                in.expect(Row.mixed(in.cells, 4, in.next) >>> 8 & 255, 45);
            }
        }

        private void openFrameBlock(Source in, long word) {
            int size = (int) Math.min(word & 0x7FFFFFFFL, BLOCK_MOST + 1);
            if (size == 0 || size > BLOCK_MOST) {
                in.tell(46);
            }
            int trayEnd = in.end;
            int begin = in.next;
            int after = begin + size + ((flags & 16) != 0 ? 4 : 0);
            if (after > trayEnd) {
                in.tellAt(1, trayEnd);
            }
            if (in.rule != 0) {
                return;
            }
            if ((flags & 16) != 0) {
                in.last = after - 1;
                if (Row.low(in.cells, begin + size, 4) != (Row.mixed(in.cells, begin, begin + size) & WORD)) {
                    in.tell(47);
                }
            }
            in.window(begin, begin + size);
            if (word > 0x7FFFFFFFL) {
                in.emitTaken(size);
            } else {
                openFast(in, (flags & 32) != 0);
            }
            in.window(after, trayEnd);
        }

        void packCopies(Row text, Row out) {
            out.addSevens(text.count);
            finder.greedy(text, 4, 64, Finder.UNCUT);
            int from = 0;
            for (int i = 0; i < finder.tokens; i++) {
                if (finder.gaps[i] > 0) {
                    copyLiterals(text, from, finder.places[i], out);
                    copyBack(finder.sizes[i], finder.gaps[i], out);
                    from = finder.places[i] + finder.sizes[i];
                }
            }
            copyLiterals(text, from, text.count, out);
        }

        private static void copyLiterals(Row text, int from, int to, Row out) {
            int less = to - from - 1;
            if (less < 0) {
                return;
            }
            if (less < 60) {
                out.add(less << 2);
            } else if (less < 256) {
                out.add(60 << 2);
                out.add(less);
            } else {
                out.add(61 << 2);
                out.addLow(less, 2);
            }
            out.addSpan(text.cells, from, to);
        }

        private static void copyBack(int size, int gap, Row out) {
            if (size < 12 && gap < 2048) {
                out.add(gap >> 8 << 5 | size - 4 << 2 | 1);
                out.add(gap);
            } else {
                out.add(size - 1 << 2 | 2);
                out.addLow(gap, 2);
            }
        }

        void openCopies(Source in) {
            long told = in.takeSevens();
            if (told > STREAM_MOST) {
                in.tell(13);
            }
            for (int i = 0; i < MANY && in.rule == 0 && in.next < in.end; i++) {
                int head = in.take();
                if ((head & 3) == 0) {
                    openLiterals(in, head >> 2, told);
                } else {
                    openBack(in, head, told);
                }
            }
            if (in.out.count < told) {
                in.tellAt(54, in.end);
            }
        }

        private static void openLiterals(Source in, int six, long told) {
            long less = six < 60 ? six : in.takeLow(six - 59);
            if (less + 1 > told - in.out.count) {
                in.tell(53);
            }
            in.emitTaken(less + 1);
        }

        private static void openBack(Source in, int head, long told) {
            int how = head & 3;
            int size = how == 1 ? (head >> 2 & 7) + 4 : (head >> 2) + 1;
            if (size > told - in.out.count) {
                in.tell(53);
            }
            long gap = how == 1 ? (head >> 5) * 256 + in.take() : in.takeLow(how == 2 ? 2 : 4);
            if (gap == 0 || gap > in.out.count) {
                in.tell(52);
            }
            in.emitCopy(gap, size);
        }

        void packDelta(Row first, Row other, Row out) {
            out.addSevens(other.count);
            out.addLow(Row.round(first.cells, 0, first.count), 4);
            finder.chainFirst(first);
            int from = 0;
            int p = 0;
            for (int i = 0; i < other.count && p < other.count; i++) {
                int size = finder.longestInFirst(other, p);
                if (size > 0 || p - from == 200) {
                    deltaLiterals(other, from, p, out);
                    from = p;
                }
                if (size > 0) {
                    out.add(1);
                    out.addSevens(size);
                    out.addSevens(finder.found);
                    from = p + size;
                }
                p += Math.max(1, size);
            }
            deltaLiterals(other, from, other.count, out);
        }

        private static void deltaLiterals(Row other, int from, int to, Row out) {
            if (to > from) {
                out.add(0);
                out.add(to - from);
                out.addSpan(other.cells, from, to);
            }
        }

        void openDelta(Source in, Row first) {
            long told = in.takeSevens();
            if (told > STREAM_MOST) {
                in.tell(13);
            }
            long round = in.takeLow(4);
            if (round != (Row.round(first.cells, 0, first.count) & WORD)) {
                in.tell(131);
            }
            for (int i = 0; i < MANY && in.rule == 0 && in.next < in.end; i++) {
                int how = in.take();
                if (how > 1) {
                    in.tell(132);
                }
                long many = how == 0 ? in.take() : in.takeSevens();
                if (many == 0) {
                    in.tell(133);
                }
                if (many > told - in.out.count) {
                    in.tell(134);
                }
                if (how == 0) {
                    in.emitTaken(many);
                } else {
                    openFromFirst(in, first, many);
                }
            }
            if (in.out.count < told) {
                in.tellAt(135, in.end);
            }
        }

        private static void openFromFirst(Source in, Row first, long many) {
            long place = in.takeSevens();
            if (many + place > first.count) {
                in.tell(133);
            }
            for (int i = 0; i < many && in.rule == 0; i++) {
                in.emit(first.cells[(int) place + i]);
            }
        }
    }

    /** BLOCKS, and what stands round them in RIM and MEMBER. */
    private static final class Blocks {
        static final int REACH = 32768;
        private static final int[] SIZE_FIRST = {
            3, 4, 5, 6, 7, 8, 9, 10, 11, 13, 15, 17, 19, 23, 27, 31, 35, 43, 51, 59, 67, 83, 99, 115, 131, 163, 195, 227, 258
        };
        private static final int[] SIZE_MORE = {
            0, 0, 0, 0, 0, 0, 0, 0, 1, 1, 1, 1, 2, 2, 2, 2, 3, 3, 3, 3, 4, 4, 4, 4, 5, 5, 5, 5, 0
        };
        private static final int[] GAP_FIRST = {
            1, 2, 3, 4, 5, 7, 9, 13, 17, 25, 33, 49, 65, 97, 129, 193, 257, 385, 513, 769,
            1025, 1537, 2049, 3073, 4097, 6145, 8193, 12289, 16385, 24577
        };
        private static final int[] GAP_MORE = {
            0, 0, 0, 0, 1, 1, 2, 2, 3, 3, 4, 4, 5, 5, 6, 6, 7, 7, 8, 8, 9, 9, 10, 10, 11, 11, 12, 12, 13, 13
        };
        private static final int[] STEP_ORDER = {
            16, 17, 18, 0, 8, 7, 9, 6, 10, 5, 11, 4, 12, 3, 13, 2, 14, 1, 15
        };
        private static final int END = 256;
        private static final int SIZES = 29;
        private static final int GAPS = 30;
        private static final int SYMBOLS = 286;
        private static final int STEPS = 19;
        private static final int STORED_MOST = 1000;

        private final Finder finder;
        private final Code fixedFirst = new Code();
        private final Code fixedOther = new Code();
        private final Code first = new Code();
        private final Code other = new Code();
        private final Code third = new Code();
        private final int[] tally = new int[SYMBOLS];
        private final int[] otherTally = new int[GAPS];
        private final int[] stepTally = new int[STEPS];
        private final int[] lengths = new int[SYMBOLS + GAPS];
        private final int[] steps = new int[SYMBOLS + GAPS];
        private final int[] stepMore = new int[SYMBOLS + GAPS];
        private int stepCount;
        private final int[] sizeSymbols = new int[259];
        private final int[] sizePrices = new int[259];

        Blocks(Finder finder) {
            this.finder = finder;
            for (int s = 0; s < 288; s++) {
                fixedFirst.lengths[s] = s < 144 ? 8 : s < 256 ? 9 : s < 280 ? 7 : 8;
            }
            fixedFirst.settle(288);
            for (int s = 0; s < 32; s++) {
                fixedOther.lengths[s] = 5;
            }
            fixedOther.settle(32);
            int symbol = 0;
            for (int size = 3; size <= 258; size++) {
                if (symbol + 1 < SIZES && SIZE_FIRST[symbol + 1] <= size) {
                    symbol++;
                }
                sizeSymbols[size] = 257 + symbol;
                sizePrices[size] = fixedFirst.lengths[257 + symbol] + SIZE_MORE[symbol];
            }
        }

        private static int gapSymbol(int gap) {
            int symbol = GAPS - 1;
            for (; symbol > 0 && GAP_FIRST[symbol] > gap; symbol--) {
            }
            return symbol;
        }

        /** In a FIXED block. */
        static int gapPrice(int gap) {
            return 5 + GAP_MORE[gapSymbol(gap)];
        }

        /** What stands before the BLOCKS of a RIM, or of a MEMBER. */
        void headOut(int kind, int level, Row out) {
            if (kind == 4) {
                int head = 120 * 256 + Math.min(level, 3) * 64;
                out.addHigh(head + (31 - head % 31) % 31, 2);
            } else if (kind == 5) {
                out.addHigh(0x1F8B0800L, 4);
                out.addHigh(0xFFL, 6);
            }
        }

        void tailOut(int kind, Row text, Row out) {
            if (kind == 4) {
                out.addHigh(Row.adler(text.cells, 0, text.count), 4);
            } else if (kind == 5) {
                out.addLow(Row.round(text.cells, 0, text.count), 4);
                out.addLow(text.count, 4);
            }
        }

        /** How many bits the BLOCKS have. */
        int packAll(Row text, int level, Row out) {
            int begin = out.count;
            switch (level) {
                case 0:
                    storedBlocks(text, out);
                    break;
                case 1:
                    finder.greedy(text, 3, 258, Finder.UNCUT);
                    fixedBlock(text, out);
                    break;
                case 2:
                    finder.lazy(text);
                    ownBlock(text, 0, finder.tokens, true, out);
                    break;
                case 3:
                    finder.fewest(text, sizePrices);
                    fixedBlock(text, out);
                    break;
                default:
                    finder.greedy(text, 3, 258, Finder.CUT_BY_SPANS);
                    ownBlocks(text, out);
                    break;
            }
            int made = (out.count - begin) * 8 - out.spare;
            out.closeOctet();
            return made;
        }

        private static void storedBlocks(Row text, Row out) {
            int many = Math.max(1, (text.count + STORED_MOST - 1) / STORED_MOST);
            for (int i = 0; i < many; i++) {
                int from = i * STORED_MOST;
                int to = Math.min(text.count, from + STORED_MOST);
                out.lowBits(i == many - 1 ? 1 : 0, 3);
                out.closeOctet();
                out.addLow(to - from, 2);
                out.addLow(~(to - from), 2);
                out.addSpan(text.cells, from, to);
            }
        }

        private void fixedBlock(Row text, Row out) {
            out.lowBits(1, 1);
            out.lowBits(1, 2);
            tokensOut(text, 0, finder.tokens, false, out);
        }

        private void ownBlocks(Row text, Row out) {
            int many = Math.max(1, (text.count + Finder.SPAN - 1) / Finder.SPAN);
            int from = 0;
            for (int i = 0; i < many; i++) {
                int to = from;
                for (; to < finder.tokens && finder.places[to] < (i + 1) * Finder.SPAN; to++) {
                }
                ownBlock(text, from, to, i == many - 1, out);
                from = to;
            }
        }

        private void ownBlock(Row text, int from, int to, boolean isLast, Row out) {
            tallyTokens(text, from, to);
            first.byCounts(tally, SYMBOLS, 15);
            other.byCounts(otherTally, GAPS, 15);
            int firstTold = toldLengths(first, SYMBOLS, 257);
            int otherTold = toldLengths(other, GAPS, 1);
            for (int i = 0; i < firstTold; i++) {
                lengths[i] = first.lengths[i];
            }
            for (int i = 0; i < otherTold; i++) {
                lengths[firstTold + i] = other.lengths[i];
            }
            makeSteps(firstTold + otherTold);
            third.byCounts(stepTally, STEPS, 7);
            int told = STEPS;
            for (; told > 4 && third.lengths[STEP_ORDER[told - 1]] == 0; told--) {
            }
            out.lowBits(isLast ? 1 : 0, 1);
            out.lowBits(2, 2);
            out.lowBits(firstTold - 257, 5);
            out.lowBits(otherTold - 1, 5);
            out.lowBits(told - 4, 4);
            for (int i = 0; i < told; i++) {
                out.lowBits(third.lengths[STEP_ORDER[i]], 3);
            }
            stepsOut(out);
            tokensOut(text, from, to, true, out);
        }

        private void tallyTokens(Row text, int from, int to) {
            Arrays.fill(tally, 0);
            Arrays.fill(otherTally, 0);
            for (int i = from; i < to; i++) {
                if (finder.gaps[i] == 0) {
                    tally[text.cells[finder.places[i]]]++;
                } else {
                    tally[sizeSymbols[finder.sizes[i]]]++;
                    otherTally[gapSymbol(finder.gaps[i])]++;
                }
            }
            tally[END] = 1;
        }

        private static int toldLengths(Code code, int symbols, int least) {
            int told = symbols;
            for (; told > least && code.lengths[told - 1] == 0; told--) {
            }
            return told;
        }

        private void makeSteps(int many) {
            Arrays.fill(stepTally, 0);
            stepCount = 0;
            int i = 0;
            for (int k = 0; k < many && i < many; k++) {
                int size = lengths[i];
                int run = 1;
                for (; run < 138 && i + run < many && lengths[i + run] == size; run++) {
                }
                if (size == 0 && run >= 11) {
                    addStep(18, run - 11);
                } else if (size == 0 && run >= 3) {
                    addStep(17, run - 3);
                } else if (size > 0 && run >= 3 && i > 0 && lengths[i - 1] == size) {
                    run = Math.min(run, 6);
                    addStep(16, run - 3);
                } else {
                    run = 1;
                    addStep(size, 0);
                }
                i += run;
            }
        }

        private void addStep(int symbol, int more) {
            if (stepCount < steps.length) {
                steps[stepCount] = symbol;
                stepMore[stepCount] = more;
                stepTally[symbol]++;
                stepCount++;
            }
        }

        private static int stepBits(int symbol) {
            return symbol < 16 ? 0 : symbol == 16 ? 2 : symbol == 17 ? 3 : 7;
        }

        private void stepsOut(Row out) {
            for (int i = 0; i < stepCount; i++) {
                int s = steps[i];
                out.lowBits(third.mirrored[s], third.lengths[s]);
                out.lowBits(stepMore[i], stepBits(s));
            }
        }

        private void tokensOut(Row text, int from, int to, boolean own, Row out) {
            Code code = own ? first : fixedFirst;
            Code gapCode = own ? other : fixedOther;
            for (int i = from; i < to; i++) {
                int size = finder.sizes[i];
                int gap = finder.gaps[i];
                int s = gap == 0 ? text.cells[finder.places[i]] : sizeSymbols[size];
                out.lowBits(code.mirrored[s], code.lengths[s]);
                if (gap > 0) {
                    out.lowBits(size - SIZE_FIRST[s - 257], SIZE_MORE[s - 257]);
                    int d = gapSymbol(gap);
                    out.lowBits(gapCode.mirrored[d], gapCode.lengths[d]);
                    out.lowBits(gap - GAP_FIRST[d], GAP_MORE[d]);
                }
            }
            out.lowBits(code.mirrored[END], code.lengths[END]);
        }

        void openRim(Source in) {
            int how = in.take();
            if ((how & 15) != 8 || how >> 4 > 7) {
                in.tell(20);
            }
            int flags = in.take();
            if ((how * 256 + flags) % 31 != 0) {
                in.tell(21);
            }
            if ((flags & 32) != 0) {
                in.tell(22);
            }
            openAll(in, 1 << (how >> 4) + 8);
            long told = in.takeHigh(4);
            if (told != (Row.adler(in.out.cells, 0, in.out.count) & WORD)) {
                in.tell(23);
            }
            in.mustEnd();
        }

        void openMember(Source in) {
            openMemberHead(in);
            openAll(in, REACH);
            long round = in.takeLow(4);
            if (round != (Row.round(in.out.cells, 0, in.out.count) & WORD)) {
                in.tell(34);
            }
            long many = in.takeLow(4);
            if (many != in.out.count) {
                in.tell(35);
            }
            in.mustEnd();
        }

        private static void openMemberHead(Source in) {
            in.expect(31, 30);
            in.expect(139, 30);
            in.expect(8, 31);
            int flags = in.take();
            if (flags >= 32) {
                in.tell(32);
            }
            in.pass(6);
            if ((flags & 4) != 0) {
                in.pass((int) in.takeLow(2));
            }
            if ((flags & 8) != 0) {
                passText(in);
            }
            if ((flags & 16) != 0) {
                passText(in);
            }
            if ((flags & 2) != 0 && in.rule == 0) {
                int half = Row.round(in.cells, 0, in.next) & 0xFFFF;
                if (in.takeLow(2) != half) {
                    in.tell(33);
                }
            }
        }

        private static void passText(Source in) {
            int octet = 1;
            for (int i = 0; i < TRAY_MOST + 1 && octet != 0; i++) {
                octet = in.take();
            }
        }

        /** Up to the end of the last octet of the last block. */
        void openAll(Source in, int reach) {
            boolean isLast = false;
            for (int i = 0; i < MANY && !isLast && in.rule == 0; i++) {
                isLast = in.takeBits(1) == 1;
                switch ((int) in.takeBits(2)) {
                    case 0:
                        openStored(in);
                        break;
                    case 1:
                        openSymbols(in, fixedFirst, fixedOther, reach);
                        break;
                    case 2:
                        openCodes(in);
                        openSymbols(in, first, other, reach);
                        break;
                    default:
                        in.tell(2);
                        break;
                }
            }
            in.closeOctet();
        }

        private static void openStored(Source in) {
            in.closeOctet();
            long many = in.takeLow(2);
            long turned = in.takeLow(2);
            if (turned != (many ^ 0xFFFF)) {
                in.tell(3);
            }
            in.emitTaken(many);
        }

        private void openCodes(Source in) {
            int firstTold = (int) in.takeBits(5) + 257;
            int otherTold = (int) in.takeBits(5) + 1;
            int stepsTold = (int) in.takeBits(4) + 4;
            if (firstTold > SYMBOLS || otherTold > GAPS) {
                in.tell(4);
            }
            for (int i = 0; i < STEPS; i++) {
                third.lengths[STEP_ORDER[i]] = i < stepsTold ? (int) in.takeBits(3) : 0;
            }
            third.settle(STEPS);
            if (!third.isFull()) {
                in.tell(5);
            }
            if (in.rule == 0) {
                openLengths(in, firstTold + otherTold);
            }
            if (in.rule == 0) {
                settleCodes(in, firstTold, otherTold);
            }
        }

        private void openLengths(Source in, int many) {
            int n = 0;
            for (int i = 0; i < many && n < many && in.rule == 0; i++) {
                int s = in.symbol(third, 11);
                if (s == 16 && n == 0) {
                    in.tell(8);
                }
                int times = s < 16 ? 1 : (s == 18 ? 11 : 3) + (int) in.takeBits(stepBits(s));
                if (times > many - n) {
                    in.tell(9);
                }
                int size = s < 16 ? s : s == 16 && n > 0 ? lengths[n - 1] : 0;
                for (int k = 0; k < times && in.rule == 0; k++) {
                    lengths[n] = size;
                    n++;
                }
            }
        }

        private void settleCodes(Source in, int firstTold, int otherTold) {
            for (int i = 0; i < firstTold; i++) {
                first.lengths[i] = lengths[i];
            }
            for (int i = 0; i < otherTold; i++) {
                other.lengths[i] = lengths[firstTold + i];
            }
            first.settle(firstTold);
            other.settle(otherTold);
            if (lengths[END] == 0) {
                in.tell(10);
            }
            if (!first.isFull() && !first.isSingle()) {
                in.tell(6);
            }
            if (!other.isFull() && !other.isSingle() && !other.isEmpty()) {
                in.tell(7);
            }
        }

        private static void openSymbols(Source in, Code code, Code gapCode, int reach) {
            for (int i = 0; i < MANY && in.rule == 0; i++) {
                int s = in.symbol(code, 11);
                if (s == END) {
                    return;
                }
                if (s >= 0 && s < END) {
                    in.emit(s);
                } else if (s > END) {
                    openMatch(in, s - 257, gapCode, reach);
                }
            }
        }

        private static void openMatch(Source in, int s, Code gapCode, int reach) {
            if (s >= SIZES) {
                in.tell(11);
                return;
            }
            long size = SIZE_FIRST[s] + in.takeBits(SIZE_MORE[s]);
            int d = in.symbol(gapCode, 11);
            if (d < 0 || d >= GAPS) {
                in.tell(11);
                return;
            }
            long gap = GAP_FIRST[d] + in.takeBits(GAP_MORE[d]);
            if (gap > in.out.count || gap > reach) {
                in.tell(12);
            }
            in.emitCopy(gap, size);
        }
    }

    /** SORTED. */
    private static final class Sorted {
        private static final long BLOCK = 0x314159265359L;
        private static final long END = 0x177245385090L;
        private static final int SPAN = 2000;
        private static final int RUNS_MOST = 2500;
        private static final int ROW_MOST = 15000;
        private static final int GROUP = 50;
        private static final int CODES = 6;

        private final int[] runs = new int[RUNS_MOST];
        private int size;
        private final int[] order = new int[ROW_MOST];
        private final int[] moved = new int[RUNS_MOST];
        private final int[] ranks = new int[RUNS_MOST];
        private final int[] newRanks = new int[RUNS_MOST];
        private final int[] starts = new int[RUNS_MOST + 1];
        private final int[] row = new int[ROW_MOST];
        private final int[] signs = new int[256];
        private int signCount;
        private final int[] symbols = new int[RUNS_MOST + 1];
        private int symbolCount;
        private final int[] tally = new int[258];
        private final Code[] codes = new Code[CODES];
        private final int[] choices = new int[32768];
        private int choiceCount;

        Sorted() {
            for (int i = 0; i < CODES; i++) {
                codes[i] = new Code();
            }
        }

        void packSorted(Row text, Row out) {
            out.addHigh(0x425A6831L, 4);
            int all = 0;
            for (int from = 0; from < text.count; from += SPAN) {
                int to = Math.min(text.count, from + SPAN);
                int check = Row.turned(text.cells, from, to);
                all = Row.rotated(all, 1) ^ check;
                makeRuns(text, from, to);
                sortRotations();
                out.highBits(BLOCK, 48);
                out.highBits(check, 32);
                out.highBits(0, 1);
                lastOctets(out);
                signsOut(out);
                makeSymbols();
                symbolsOut(out);
            }
            out.highBits(END, 48);
            out.highBits(all, 32);
            out.closeOctet();
        }

        private void makeRuns(Row text, int from, int to) {
            size = 0;
            int p = from;
            for (int i = from; i < to && p < to; i++) {
                int n = 1;
                for (; n < 259 && p + n < to && text.cells[p + n] == text.cells[p]; n++) {
                }
                for (int k = 0; k < n && k < 4; k++) {
                    runs[size] = text.cells[p];
                    size++;
                }
                if (n >= 4) {
                    runs[size] = n - 4;
                    size++;
                }
                p += n;
            }
        }

        /** By their first octets, then by twice as many each time. */
        private void sortRotations() {
            for (int i = 0; i < size; i++) {
                moved[i] = i;
                ranks[i] = runs[i];
            }
            orderByRanks(256);
            int ranked = rankAnew(0);
            for (int step = 1; step < size && ranked < size; step *= 2) {
                for (int i = 0; i < size; i++) {
                    moved[i] = order[i] >= step ? order[i] - step : order[i] - step + size;
                }
                orderByRanks(ranked);
                ranked = rankAnew(step);
            }
            // rotations that are the same stand in the order in which they begin
            for (int i = 0; i < size; i++) {
                moved[i] = i;
            }
            orderByRanks(ranked);
        }

        private void orderByRanks(int ranked) {
            for (int r = 0; r <= ranked; r++) {
                starts[r] = 0;
            }
            for (int i = 0; i < size; i++) {
                starts[ranks[i] + 1]++;
            }
            for (int r = 1; r <= ranked; r++) {
                starts[r] += starts[r - 1];
            }
            for (int i = 0; i < size; i++) {
                int r = ranks[moved[i]];
                order[starts[r]] = moved[i];
                starts[r]++;
            }
        }

        private int rankAnew(int step) {
            int ranked = 0;
            for (int i = 0; i < size; i++) {
                if (i > 0 && (ranks[order[i]] != ranks[order[i - 1]]
                        || ranks[behind(order[i], step)] != ranks[behind(order[i - 1], step)])) {
                    ranked++;
                }
                newRanks[order[i]] = ranked;
            }
            System.arraycopy(newRanks, 0, ranks, 0, size);
            return ranked + 1;
        }

        private int behind(int place, int step) {
            return place + step < size ? place + step : place + step - size;
        }

        private void lastOctets(Row out) {
            int origin = 0;
            for (int i = 0; i < size; i++) {
                row[i] = runs[order[i] == 0 ? size - 1 : order[i] - 1];
                if (order[i] == 0) {
                    origin = i;
                }
            }
            out.highBits(origin, 24);
        }

        private void signsOut(Row out) {
            Arrays.fill(tally, 0);
            for (int i = 0; i < size; i++) {
                tally[row[i]] = 1;
            }
            signCount = 0;
            int sixteens = 0;
            for (int v = 0; v < 256; v++) {
                if (tally[v] > 0) {
                    signs[signCount] = v;
                    signCount++;
                    sixteens |= 0x8000 >> v / 16;
                }
            }
            out.highBits(sixteens, 16);
            for (int s = 0; s < 16; s++) {
                if ((sixteens & 0x8000 >> s) != 0) {
                    for (int v = 16 * s; v < 16 * s + 16; v++) {
                        out.highBits(tally[v], 1);
                    }
                }
            }
        }

        private void makeSymbols() {
            symbolCount = 0;
            int zeros = 0;
            for (int i = 0; i < size; i++) {
                int place = toFront(signPlace(row[i]));
                if (place == 0) {
                    zeros++;
                } else {
                    addDigits(zeros);
                    zeros = 0;
                    addSymbol(place + 1);
                }
            }
            addDigits(zeros);
            addSymbol(signCount + 1);
        }

        private int signPlace(int octet) {
            int place = 0;
            for (; place < signCount - 1 && signs[place] != octet; place++) {
            }
            return place;
        }

        private int toFront(int place) {
            int sign = signs[place];
            for (int k = place; k > 0; k--) {
                signs[k] = signs[k - 1];
            }
            signs[0] = sign;
            return place;
        }

        private void addDigits(int number) {
            int rest = number;
            for (int i = 0; i < 32 && rest > 0; i++) {
                int digit = 2 - rest % 2;
                addSymbol(digit - 1);
                rest = (rest - digit) / 2;
            }
        }

        private void addSymbol(int s) {
            if (symbolCount < symbols.length) {
                symbols[symbolCount] = s;
                symbolCount++;
            }
        }

        private void symbolsOut(Row out) {
            int many = signCount + 2;
            Arrays.fill(tally, 0);
            for (int i = 0; i < symbolCount; i++) {
                tally[symbols[i]]++;
            }
            for (int s = 0; s < many; s++) {
                tally[s] = Math.max(tally[s], 1);
            }
            Code code = codes[0];
            code.byCounts(tally, many, 17);
            int turns = (symbolCount + GROUP - 1) / GROUP;
            out.highBits(2, 3);
            out.highBits(turns, 15);
            // 0, 1, 0, .. : but for the first, each is the one behind the front
            out.highBits(0, 1);
            for (int i = 1; i < turns; i++) {
                out.highBits(2, 2);
            }
            lengthsOut(code, many, out);
            lengthsOut(code, many, out);
            for (int i = 0; i < symbolCount; i++) {
                out.highBits(code.codes[symbols[i]], code.lengths[symbols[i]]);
            }
        }

        private static void lengthsOut(Code code, int many, Row out) {
            int told = code.lengths[0];
            out.highBits(told, 5);
            for (int s = 0; s < many; s++) {
                for (; told < code.lengths[s]; told++) {
                    out.highBits(2, 2);
                }
                for (; told > code.lengths[s]; told--) {
                    out.highBits(3, 2);
                }
                out.highBits(0, 1);
            }
        }

        void openSorted(Source in) {
            in.expect(66, 80);
            in.expect(90, 80);
            in.expect(104, 80);
            int most = in.take();
            if (most < 49 || most > 57) {
                in.tell(80);
            }
            int all = 0;
            for (int i = 0; i < MANY && in.rule == 0; i++) {
                long head = in.takeBits(48);
                if (head == END) {
                    if (in.takeBits(32) != (all & WORD)) {
                        in.tell(91);
                    }
                    in.mustEnd();
                    return;
                }
                if (head != BLOCK) {
                    in.tell(81);
                }
                all = Row.rotated(all, 1) ^ openBlock(in);
            }
        }

        /** The TURNED that is told for the block. */
        private int openBlock(Source in) {
            int check = (int) in.takeBits(32);
            if (in.takeBits(1) != 0) {
                in.tell(82);
            }
            int origin = (int) in.takeBits(24);
            openSigns(in);
            int codeCount = (int) in.takeBits(3);
            if (codeCount < 2 || codeCount > CODES) {
                in.tell(85);
            }
            choiceCount = (int) in.takeBits(15);
            if (choiceCount == 0) {
                in.tell(85);
            }
            openChoices(in, codeCount);
            for (int i = 0; i < codeCount && in.rule == 0; i++) {
                openLengths(in, codes[i]);
            }
            openRow(in);
            if (origin >= size) {
                in.tell(83);
            }
            if (in.rule == 0) {
                openText(in, origin, check);
            }
            return check;
        }

        private void openSigns(Source in) {
            signCount = 0;
            long sixteens = in.takeBits(16);
            for (int s = 0; s < 16 && in.rule == 0; s++) {
                long there = (sixteens & 0x8000 >> s) != 0 ? in.takeBits(16) : 0;
                for (int v = 0; v < 16; v++) {
                    if ((there & 0x8000 >> v) != 0) {
                        signs[signCount] = 16 * s + v;
                        signCount++;
                    }
                }
            }
            if (signCount == 0) {
                in.tell(84);
            }
        }

        private void openChoices(Source in, int codeCount) {
            // six codes in a row, a figure in eights each, the front one lowest
            int codeRow = 0543210;
            for (int i = 0; i < choiceCount && in.rule == 0; i++) {
                int place = 0;
                for (; place < codeCount && in.takeBits(1) == 1; place++) {
                }
                if (place == codeCount) {
                    in.tell(86);
                    return;
                }
                int which = codeRow >> 3 * place & 7;
                int front = codeRow & (1 << 3 * place) - 1;
                int rest = codeRow >> 3 * place + 3 << 3 * place + 3;
                codeRow = rest | front << 3 | which;
                choices[i] = which;
            }
        }

        private void openLengths(Source in, Code code) {
            int told = (int) in.takeBits(5);
            for (int s = 0; s < signCount + 2 && in.rule == 0; s++) {
                for (int i = 0; i < MANY && in.takeBits(1) == 1; i++) {
                    told += in.takeBits(1) == 0 ? 1 : -1;
                }
                if (told < 1 || told > Code.LONGEST) {
                    in.tell(87);
                    return;
                }
                code.lengths[s] = told;
            }
            if (in.rule == 0) {
                code.settle(signCount + 2);
                if (code.isOver()) {
                    in.tell(87);
                }
            }
        }

        private void openRow(Source in) {
            size = 0;
            int number = 0;
            int worth = 1;
            for (int i = 0; i < MANY && in.rule == 0; i++) {
                if (i / GROUP >= choiceCount) {
                    in.tell(89);
                    return;
                }
                int s = in.symbol(codes[choices[i / GROUP]], 88);
                if (s == 0 || s == 1) {
                    number += worth * (s + 1);
                    worth *= 2;
                    if (number > ROW_MOST) {
                        in.tell(13);
                    }
                } else if (s > 1) {
                    rowTimes(in, signs[0], number);
                    number = 0;
                    worth = 1;
                    if (s > signCount) {
                        return;
                    }
                    toFront(s - 1);
                    rowTimes(in, signs[0], 1);
                }
            }
        }

        private void rowTimes(Source in, int sign, int many) {
            if (many > ROW_MOST - size) {
                in.tell(13);
                return;
            }
            for (int i = 0; i < many; i++) {
                row[size] = sign;
                size++;
            }
        }

        private void openText(Source in, int origin, int check) {
            int begin = in.out.count;
            orderRow();
            int entry = order[origin];
            int before = -1;
            int same = 0;
            for (int i = 0; i < size && in.rule == 0; i++) {
                int octet = row[entry];
                entry = order[entry];
                if (same == 4) {
                    in.emitTimes(before, octet);
                    same = 0;
                } else {
                    same = same > 0 && octet == before ? same + 1 : 1;
                    before = octet;
                    in.emit(octet);
                }
            }
            if (same == 4) {
                in.tell(92);
            }
            if (check != Row.turned(in.out.cells, begin, in.out.count)) {
                in.tell(90);
            }
        }

        private void orderRow() {
            Arrays.fill(tally, 0);
            for (int i = 0; i < size; i++) {
                tally[row[i] + 1]++;
            }
            for (int v = 1; v < 256; v++) {
                tally[v] += tally[v - 1];
            }
            for (int i = 0; i < size; i++) {
                order[tally[row[i]]] = i;
                tally[row[i]]++;
            }
        }
    }

    /** ENTRIES, and how they are written and read. */
    private static final class Shelf {
        private static final int CARD = 512;
        private static final int BENCH_ROW = 60;
        private static final int BENCH_NAME = 16;
        private static final int BOX_HEAD = 30;
        private static final int BOX_ROW = 46;
        private static final int BOX_END = 22;
        private static final long HEAD_MARK = 0x04034b50L;
        private static final long ROW_MARK = 0x02014b50L;
        private static final long END_MARK = 0x06054b50L;
        private static final int[] BENCH_MARK = {33, 60, 97, 114, 99, 104, 62, 10};
        private static final int[] TAPE_MARK = {117, 115, 116, 97, 114, 0, 48, 48};

        final Row[] names = new Row[ENTRIES];
        final Row[] texts = new Row[ENTRIES];
        final int[] modes = new int[ENTRIES];
        final int[] times = new int[ENTRIES];
        int count;
        private final Blocks blocks;
        private final Row work;
        private final Row label = new Row(NAME_MOST);
        private final int[] card = new int[CARD];
        private final int[] heads = new int[ENTRIES];
        private final int[] methods = new int[ENTRIES];
        private final int[] stands = new int[ENTRIES];

        Shelf(Blocks blocks, Row work) {
            this.blocks = blocks;
            this.work = work;
            for (int i = 0; i < ENTRIES; i++) {
                names[i] = new Row(NAME_MOST);
                texts[i] = new Row(TRAY_MOST);
            }
        }

        void addEntry(Row name, int mode, int time, int[] cells, int from, int size) {
            if (count < 0 || count >= ENTRIES) {
                return;
            }
            names[count].clear();
            names[count].addSpan(name.cells, 0, name.count);
            texts[count].clear();
            texts[count].addSpan(cells, from, from + size);
            modes[count] = mode;
            times[count] = time;
            count++;
        }

        boolean isUnsafe(int entry) {
            Row name = names[entry];
            int piece = 0;
            boolean dots = true;
            boolean unsafe = name.count > 0 && name.cells[0] == 47;
            for (int i = 0; i <= name.count; i++) {
                int v = i < name.count ? name.cells[i] : 47;
                if (v == 47) {
                    unsafe |= dots && i - piece == 2;
                    piece = i + 1;
                    dots = true;
                }
                dots &= v == 46 || v == 47;
                unsafe |= v == 92 || v == 58;
            }
            return unsafe;
        }

        // TAPE

        void writeTape(Row out) {
            for (int i = 0; i < count; i++) {
                tapeCard(i);
                out.addSpan(card, 0, CARD);
                out.addSpan(texts[i].cells, 0, texts[i].count);
                blanks(out, (CARD - texts[i].count % CARD) % CARD);
            }
            blanks(out, 2 * CARD);
        }

        private static void blanks(Row out, int many) {
            for (int i = 0; i < many; i++) {
                out.add(0);
            }
        }

        private void tapeCard(int entry) {
            Arrays.fill(card, 0);
            for (int i = 0; i < names[entry].count; i++) {
                card[i] = names[entry].cells[i];
            }
            eightsIn(100, 7, modes[entry]);
            eightsIn(108, 7, 0);
            eightsIn(116, 7, 0);
            eightsIn(124, 11, texts[entry].count);
            eightsIn(136, 11, times[entry]);
            card[156] = 48;
            for (int i = 0; i < TAPE_MARK.length; i++) {
                card[257 + i] = TAPE_MARK[i];
            }
            eightsIn(148, 6, tapeSum(card, 0));
            card[155] = 32;
        }

        private void eightsIn(int place, int figures, int v) {
            int rest = v;
            for (int i = figures - 1; i >= 0; i--) {
                card[place + i] = 48 + (rest & 7);
                rest >>>= 3;
            }
        }

        private static int tapeSum(int[] cells, int row) {
            int total = 0;
            for (int i = 0; i < CARD; i++) {
                total += i >= 148 && i < 156 ? 32 : cells[row + i];
            }
            return total;
        }

        void readTape(Source in) {
            int row = 0;
            // a seventeenth is told in its own row
            for (int i = 0; i <= ENTRIES && in.rule == 0; i++) {
                if (row > in.end - CARD) {
                    in.tellAt(1, in.end);
                } else if (isBlank(in.cells, row)) {
                    return;
                } else {
                    row = readTapeRow(in, row);
                }
            }
        }

        private static boolean isBlank(int[] cells, int row) {
            for (int i = 0; i < CARD; i++) {
                if (cells[row + i] != 0) {
                    return false;
                }
            }
            return true;
        }

        private int readTapeRow(Source in, int row) {
            long told = eights(in.cells, row + 148, 8);
            long mode = eights(in.cells, row + 100, 8);
            long size = eights(in.cells, row + 124, 12);
            long time = eights(in.cells, row + 136, 12);
            if (told < 0) {
                in.tellAt(101, row);
            }
            if (told != tapeSum(in.cells, row)) {
                in.tellAt(100, row);
            }
            if (mode < 0 || size < 0 || time < 0 || time > TIME_MOST) {
                in.tellAt(101, row);
            }
            if (in.cells[row + 156] != 48) {
                in.tellAt(102, row);
            }
            tapeLabel(in.cells, row);
            if (in.cells[row] == 0 || label.over) {
                in.tellAt(103, row);
            }
            if (count >= ENTRIES || size > TRAY_MOST) {
                in.tellAt(104, row);
            }
            int from = row + CARD;
            if (size > in.end - from) {
                in.tellAt(1, in.end);
            }
            if (in.rule == 0) {
                addEntry(label, (int) mode & MODE_MOST, (int) time, in.cells, from, (int) size);
                from += ((int) size + CARD - 1) / CARD * CARD;
            }
            return from;
        }

        private void tapeLabel(int[] cells, int row) {
            label.clear();
            if (cells[row + 345] != 0) {
                for (int i = 345; i < 500 && cells[row + i] != 0; i++) {
                    label.add(cells[row + i]);
                }
                label.add(47);
            }
            for (int i = 0; i < 100 && cells[row + i] != 0; i++) {
                label.add(cells[row + i]);
            }
        }

        /** Figures as a TAPE has them; below 0 if there are none. */
        private static long eights(int[] cells, int from, int many) {
            int i = 0;
            for (; i < many && cells[from + i] == 32; i++) {
            }
            long v = -1;
            for (; i < many && cells[from + i] >= 48 && cells[from + i] < 56; i++) {
                v = Math.max(v, 0) * 8 + cells[from + i] - 48;
            }
            return i == many || cells[from + i] == 0 || cells[from + i] == 32 ? v : -1;
        }

        // BENCH

        boolean fitsBench() {
            for (int i = 0; i < count; i++) {
                boolean fits = names[i].count < BENCH_NAME;
                for (int k = 0; k < names[i].count; k++) {
                    fits &= names[i].cells[k] != 47 && names[i].cells[k] != 32;
                }
                if (!fits) {
                    return false;
                }
            }
            return true;
        }

        void writeBench(Row out) {
            out.addSpan(BENCH_MARK, 0, BENCH_MARK.length);
            for (int i = 0; i < count; i++) {
                Arrays.fill(card, 32);
                for (int k = 0; k < names[i].count && k < BENCH_NAME - 1; k++) {
                    card[k] = names[i].cells[k];
                }
                card[Math.min(names[i].count, BENCH_NAME - 1)] = 47;
                figuresIn(16, times[i], true);
                figuresIn(28, 0, true);
                figuresIn(34, 0, true);
                figuresIn(40, modes[i], false);
                figuresIn(48, texts[i].count, true);
                card[58] = 96;
                card[59] = 10;
                out.addSpan(card, 0, BENCH_ROW);
                out.addSpan(texts[i].cells, 0, texts[i].count);
                if (texts[i].count % 2 == 1) {
                    out.add(10);
                }
            }
        }

        private void figuresIn(int place, int v, boolean tens) {
            int base = tens ? 10 : 8;
            int figures = 1;
            for (int rest = v / base; rest > 0; rest /= base) {
                figures++;
            }
            int rest = v;
            for (int i = figures - 1; i >= 0; i--) {
                card[place + i] = 48 + rest % base;
                rest /= base;
            }
        }

        void readBench(Source in) {
            if (in.end < BENCH_MARK.length) {
                in.tellAt(1, in.end);
                return;
            }
            for (int i = 0; i < BENCH_MARK.length; i++) {
                if (in.cells[i] != BENCH_MARK[i]) {
                    in.tellAt(110, 0);
                }
            }
            int row = BENCH_MARK.length;
            for (int i = 0; i <= ENTRIES && in.rule == 0 && row < in.end; i++) {
                if (row > in.end - BENCH_ROW) {
                    in.tellAt(1, in.end);
                } else {
                    row = readBenchRow(in, row);
                }
            }
        }

        private int readBenchRow(Source in, int row) {
            long time = figures(in.cells, row + 16, 12, 10);
            long mode = figures(in.cells, row + 40, 8, 8);
            long size = figures(in.cells, row + 48, 10, 10);
            if (in.cells[row + 58] != 96 || in.cells[row + 59] != 10) {
                in.tellAt(111, row);
            }
            if (time < 0 || mode < 0 || size < 0 || time > TIME_MOST) {
                in.tellAt(112, row);
            }
            if (!benchLabel(in.cells, row)) {
                in.tellAt(103, row);
            }
            if (count >= ENTRIES || size > TRAY_MOST) {
                in.tellAt(104, row);
            }
            int from = row + BENCH_ROW;
            if (size > in.end - from) {
                in.tellAt(1, in.end);
            }
            if (in.rule == 0) {
                addEntry(label, (int) mode & MODE_MOST, (int) time, in.cells, from, (int) size);
                from += ((int) size + 1) / 2 * 2;
            }
            return from;
        }

        private boolean benchLabel(int[] cells, int row) {
            label.clear();
            int i = 0;
            for (; i < BENCH_NAME && cells[row + i] != 47; i++) {
                if (cells[row + i] == 0) {
                    return false;
                }
                label.add(cells[row + i]);
            }
            return i > 0 && i < BENCH_NAME;
        }

        /** Figures as a BENCH has them; below 0 if there are none. */
        private static long figures(int[] cells, int from, int many, int base) {
            long v = -1;
            int i = 0;
            for (; i < many && cells[from + i] >= 48 && cells[from + i] < 48 + base; i++) {
                v = Math.max(v, 0) * base + cells[from + i] - 48;
            }
            for (; i < many && cells[from + i] == 32; i++) {
            }
            return i == many ? v : -1;
        }

        // BOX

        void writeBox(Row out, int level) {
            for (int i = 0; i < count; i++) {
                heads[i] = out.count;
                work.clear();
                blocks.packAll(texts[i], level, work);
                boolean shorter = !work.over && work.count < texts[i].count;
                methods[i] = shorter ? 8 : 0;
                stands[i] = shorter ? work.count : texts[i].count;
                out.addLow(HEAD_MARK, 4);
                out.addLow(20, 2);
                out.addLow(0, 2);
                boxFacts(i, out);
                out.addLow(0, 2);
                out.addSpan(names[i].cells, 0, names[i].count);
                out.addSpan(shorter ? work.cells : texts[i].cells, 0, stands[i]);
            }
            int begin = out.count;
            for (int i = 0; i < count; i++) {
                out.addLow(ROW_MARK, 4);
                out.addLow(20, 2);
                out.addLow(20, 2);
                out.addLow(0, 2);
                boxFacts(i, out);
                out.addLow(0, 8);
                out.addLow(modes[i] * 65536L, 4);
                out.addLow(heads[i], 4);
                out.addSpan(names[i].cells, 0, names[i].count);
            }
            int rows = out.count - begin;
            out.addLow(END_MARK, 4);
            out.addLow(0, 4);
            out.addLow(count, 2);
            out.addLow(count, 2);
            out.addLow(rows, 4);
            out.addLow(begin, 4);
            out.addLow(0, 2);
        }

        /** The twenty octets that a head and its row have both. */
        private void boxFacts(int entry, Row out) {
            out.addLow(methods[entry], 2);
            out.addLow(times[entry], 4);
            out.addLow(Row.round(texts[entry].cells, 0, texts[entry].count), 4);
            out.addLow(stands[entry], 4);
            out.addLow(texts[entry].count, 4);
            out.addLow(names[entry].count, 2);
        }

        void readBox(Source in) {
            int[] cells = in.cells;
            int last = Math.max(0, in.end - BOX_END);
            boxEnd(in, last);
            if (in.rule != 0) {
                return;
            }
            int many = (int) Row.low(cells, last + 8, 2);
            int begin = (int) Row.low(cells, last + 16, 4);
            int row = begin;
            for (int i = 0; i < many && i < ENTRIES; i++) {
                boxRow(in, row, last);
                if (in.rule == 0) {
                    boxText(in, row, begin);
                }
                if (in.rule != 0) {
                    return;
                }
                row += BOX_ROW + (int) Row.low(cells, row + 28, 2);
            }
            if (row < last) {
                in.tellAt(122, row);
            }
        }

        private static void boxEnd(Source in, int last) {
            int[] cells = in.cells;
            if (in.end < BOX_END || Row.low(cells, last, 4) != END_MARK || Row.low(cells, last + 4, 4) != 0
                    || Row.low(cells, last + 20, 2) != 0
                    || Row.low(cells, last + 8, 2) != Row.low(cells, last + 10, 2)) {
                in.tellAt(120, last);
                return;
            }
            if (Row.low(cells, last + 8, 2) > ENTRIES) {
                in.tellAt(104, last);
            }
            if (Row.low(cells, last + 12, 4) + Row.low(cells, last + 16, 4) != last) {
                in.tellAt(121, last);
            }
        }

        private void boxRow(Source in, int row, int last) {
            int[] cells = in.cells;
            if (row > last - BOX_ROW || Row.low(cells, row, 4) != ROW_MARK
                    || Row.low(cells, row + 28, 2) > last - BOX_ROW - row) {
                in.tellAt(122, row);
                return;
            }
            long method = Row.low(cells, row + 10, 2);
            if (method != 0 && method != 8 || Row.low(cells, row + 8, 2) != 0 || Row.low(cells, row + 30, 8) != 0
                    || Row.low(cells, row + 38, 2) != 0 || Row.low(cells, row + 40, 2) > MODE_MOST
                    || Row.low(cells, row + 12, 4) > TIME_MOST) {
                in.tellAt(123, row);
            }
            label.clear();
            int size = (int) Row.low(cells, row + 28, 2);
            for (int i = 0; i < size; i++) {
                label.add(cells[row + BOX_ROW + i]);
                if (cells[row + BOX_ROW + i] == 0) {
                    in.tellAt(103, row);
                }
            }
            if (size == 0 || label.over) {
                in.tellAt(103, row);
            }
            if (Row.low(cells, row + 24, 4) > TRAY_MOST) {
                in.tellAt(104, row);
            }
        }

        private void boxText(Source in, int row, int begin) {
            int[] cells = in.cells;
            long toldHead = Row.low(cells, row + 42, 4);
            int head = (int) Math.min(toldHead, TIME_MOST);
            long standing = Row.low(cells, row + 20, 4);
            long size = Row.low(cells, row + 24, 4);
            if (toldHead + BOX_HEAD + label.count + standing > begin || !headFits(cells, head, row)) {
                in.tellAt(124, head);
                return;
            }
            boolean packed = Row.low(cells, row + 10, 2) == 8;
            if (!packed && standing != size) {
                in.tellAt(125, head);
                return;
            }
            int from = head + BOX_HEAD + label.count;
            int textSize = (int) size;
            if (packed) {
                int trayEnd = in.end;
                work.clear();
                in.window(from, from + (int) standing);
                blocks.openAll(in, Blocks.REACH);
                in.mustEnd();
                in.window(from, trayEnd);
                from = 0;
                textSize = work.count;
            }
            int[] text = packed ? work.cells : cells;
            if (textSize != size
                    || (Row.round(text, from, from + textSize) & WORD) != Row.low(cells, row + 16, 4)) {
                in.tellAt(126, head);
            }
            if (in.rule == 0) {
                int mode = (int) Row.low(cells, row + 40, 2);
                addEntry(label, mode, (int) Row.low(cells, row + 12, 4), text, from, textSize);
            }
        }

        private boolean headFits(int[] cells, int head, int row) {
            boolean fits = Row.low(cells, head, 4) == HEAD_MARK && Row.low(cells, head + 4, 4) == 20
                    && Row.low(cells, head + 28, 2) == 0;
            for (int i = 0; i < 20; i++) {
                fits &= cells[head + 8 + i] == cells[row + 10 + i];
            }
            for (int i = 0; i < label.count; i++) {
                fits &= cells[head + BOX_HEAD + i] == label.cells[i];
            }
            return fits;
        }
    }

    /** A SET of PARTS. Octets are polynomials, told by powers of x. */
    private static final class Parts {
        static final int DATA_MOST = 32;
        static final int CHECKS_MOST = 16;
        private static final int ALL_MOST = DATA_MOST + CHECKS_MOST;
        private static final int WIDE = 2 * CHECKS_MOST;

        /** One data part and all its checks are the most that a TRAY becomes. */
        final int[] cells = new int[TRAY_MOST * (1 + CHECKS_MOST)];
        final boolean[] lost = new boolean[ALL_MOST];
        int checks;
        int size;
        int total;
        int missCount;
        private int data;
        private final boolean[] gone = new boolean[ALL_MOST];
        private final int[] rounds = new int[ALL_MOST];
        private final int[] missing = new int[DATA_MOST];
        private final int[] chosen = new int[CHECKS_MOST];
        private final int[] sums = new int[CHECKS_MOST];
        private final int[] matrix = new int[CHECKS_MOST * WIDE];
        private final int[] powers = new int[510];
        private final int[] logs = new int[256];

        Parts() {
            int v = 1;
            for (int i = 0; i < 255; i++) {
                powers[i] = v;
                powers[i + 255] = v;
                logs[v] = i;
                v = v << 1;
                if (v > 255) {
                    v ^= 0x11D;
                }
            }
        }

        boolean has(int part, int i) {
            return part >= 0 && part < data + checks && i >= 0 && i < size;
        }

        private int times(int a, int b) {
            return a == 0 || b == 0 ? 0 : powers[logs[a] + logs[b]];
        }

        private int inverse(int a) {
            return powers[255 - logs[a]];
        }

        /** What data part d is times in check j; no two of these numbers are the same, so none is 1 / 0. */
        private int factor(int d, int j) {
            return inverse(d ^ 255 - j);
        }

        void make(Row text, int dataParts, int checkParts) {
            data = Math.max(1, dataParts);
            checks = checkParts;
            total = text.count;
            size = Math.max(1, (total + data - 1) / data);
            for (int i = 0; i < data * size; i++) {
                cells[i] = i < total ? text.cells[i] : 0;
            }
            for (int j = 0; j < checks; j++) {
                makeCheck(j);
            }
            for (int p = 0; p < data + checks; p++) {
                lost[p] = false;
                rounds[p] = Row.round(cells, p * size, p * size + size);
            }
        }

        private void makeCheck(int j) {
            int to = (data + j) * size;
            for (int i = 0; i < size; i++) {
                cells[to + i] = 0;
            }
            for (int d = 0; d < data; d++) {
                int f = factor(d, j);
                for (int i = 0; i < size; i++) {
                    cells[to + i] ^= times(cells[d * size + i], f);
                }
            }
        }

        int markGone() {
            int many = 0;
            missCount = 0;
            for (int p = 0; p < data + checks; p++) {
                gone[p] = lost[p] || Row.round(cells, p * size, p * size + size) != rounds[p];
                if (gone[p]) {
                    many++;
                    if (p < data) {
                        missing[missCount] = p;
                        missCount++;
                    }
                }
            }
            return many;
        }

        /** Only when no more are gone than there are checks. */
        void haveAgain() {
            int picked = 0;
            for (int j = 0; j < checks && picked < missCount; j++) {
                if (!gone[data + j]) {
                    chosen[picked] = j;
                    picked++;
                }
            }
            if (picked == missCount) {
                turnMatrix();
                for (int i = 0; i < size; i++) {
                    octetAgain(i);
                }
            }
            for (int j = 0; j < checks; j++) {
                if (gone[data + j]) {
                    makeCheck(j);
                }
            }
            for (int p = 0; p < ALL_MOST; p++) {
                lost[p] = false;
            }
        }

        /** The right half becomes what the left half, by which the checks were made, is turned back with. */
        private void turnMatrix() {
            Arrays.fill(matrix, 0);
            for (int r = 0; r < missCount; r++) {
                for (int c = 0; c < missCount; c++) {
                    matrix[r * WIDE + c] = factor(missing[c], chosen[r]);
                }
                matrix[r * WIDE + CHECKS_MOST + r] = 1;
            }
            for (int k = 0; k < missCount; k++) {
                int f = inverse(matrix[k * WIDE + k]);
                for (int c = 0; c < WIDE; c++) {
                    matrix[k * WIDE + c] = times(matrix[k * WIDE + c], f);
                }
                for (int r = 0; r < missCount; r++) {
                    int g = r == k ? 0 : matrix[r * WIDE + k];
                    for (int c = 0; c < WIDE && g != 0; c++) {
                        matrix[r * WIDE + c] ^= times(matrix[k * WIDE + c], g);
                    }
                }
            }
        }

        private void octetAgain(int i) {
            for (int k = 0; k < missCount; k++) {
                int v = cells[(data + chosen[k]) * size + i];
                for (int d = 0; d < data; d++) {
                    if (!gone[d]) {
                        v ^= times(cells[d * size + i], factor(d, chosen[k]));
                    }
                }
                sums[k] = v;
            }
            for (int r = 0; r < missCount; r++) {
                int v = 0;
                for (int k = 0; k < missCount; k++) {
                    v ^= times(matrix[r * WIDE + CHECKS_MOST + k], sums[k]);
                }
                cells[missing[r] * size + i] = v;
            }
        }
    }

    /** THE STORE. A place of a BLOCK is free when its size is 0. */
    private static final class Store {
        static final int SNAPSHOTS_MOST = 8;
        private static final int BLOCKS_MOST = 300;
        private static final int OCTETS_MOST = 40000;
        private static final int PIECE_LEAST = 32;
        private static final int PIECE_MOST = 200;
        private static final int PIECES_MOST = 192;
        private static final int CUT_BITS = 0x3F000000;

        int blockCount;
        int octetCount;
        int snapshots;
        /** Of the SNAPSHOT that was made last. */
        int number;
        private final int[] cells = new int[BLOCKS_MOST * PIECE_MOST];
        private final int[] sizes = new int[BLOCKS_MOST];
        private final int[] hashes = new int[BLOCKS_MOST];
        private final int[] uses = new int[BLOCKS_MOST];
        private final int[] marks = new int[BLOCKS_MOST];
        private final int[] numbers = new int[SNAPSHOTS_MOST];
        private final int[] rowSizes = new int[SNAPSHOTS_MOST];
        private final int[] rows = new int[SNAPSHOTS_MOST * PIECES_MOST];
        private int pieceHash;

        int find(int snapshot) {
            for (int i = 0; i < SNAPSHOTS_MOST; i++) {
                if (snapshot > 0 && numbers[i] == snapshot) {
                    return i;
                }
            }
            return -1;
        }

        private int freeRow() {
            for (int i = 0; i < SNAPSHOTS_MOST; i++) {
                if (numbers[i] == 0) {
                    return i;
                }
            }
            return -1;
        }

        /** Blocks are put in place without a use first: so they go again if there is no room. */
        boolean keep(Row text) {
            int row = freeRow();
            if (row < 0) {
                return false;
            }
            int many = 0;
            int from = 0;
            for (int i = 0; i < PIECES_MOST && from < text.count; i++) {
                int to = pieceEnd(text, from);
                int block = placeOf(text, from, to - from);
                if (block < 0) {
                    sweep();
                    return false;
                }
                rows[row * PIECES_MOST + many] = block;
                many++;
                from = to;
            }
            for (int i = 0; i < many; i++) {
                uses[rows[row * PIECES_MOST + i]]++;
            }
            rowSizes[row] = many;
            number++;
            numbers[row] = number;
            snapshots++;
            return true;
        }

        private int pieceEnd(Row text, int from) {
            int h = 0;
            int p = from;
            boolean ended = false;
            for (; p < text.count && !ended; p++) {
                h = h * 31 + text.cells[p] + 1;
                int size = p + 1 - from;
                ended = size >= PIECE_MOST || size >= PIECE_LEAST && (h & CUT_BITS) == CUT_BITS;
            }
            pieceHash = h;
            return p;
        }

        /** The BLOCK that is like a piece, or a new one; below 0 if there is no room. */
        private int placeOf(Row text, int from, int size) {
            int free = -1;
            for (int b = 0; b < BLOCKS_MOST; b++) {
                if (sizes[b] == 0) {
                    free = free < 0 ? b : free;
                } else if (isLike(b, text, from, size)) {
                    return b;
                }
            }
            if (free < 0 || size > OCTETS_MOST - octetCount) {
                return -1;
            }
            for (int i = 0; i < size; i++) {
                cells[free * PIECE_MOST + i] = text.cells[from + i];
            }
            sizes[free] = size;
            hashes[free] = pieceHash;
            uses[free] = 0;
            blockCount++;
            octetCount += size;
            return free;
        }

        private boolean isLike(int block, Row text, int from, int size) {
            if (sizes[block] != size || hashes[block] != pieceHash) {
                return false;
            }
            for (int i = 0; i < size; i++) {
                if (cells[block * PIECE_MOST + i] != text.cells[from + i]) {
                    return false;
                }
            }
            return true;
        }

        /** BLOCKS without a use are no more. */
        private int sweep() {
            int many = 0;
            for (int b = 0; b < BLOCKS_MOST; b++) {
                if (sizes[b] > 0 && uses[b] == 0) {
                    blockCount--;
                    octetCount -= sizes[b];
                    sizes[b] = 0;
                    many++;
                }
            }
            return many;
        }

        void copyOut(int row, Row out) {
            for (int i = 0; i < rowSizes[row]; i++) {
                int block = rows[row * PIECES_MOST + i];
                out.addSpan(cells, block * PIECE_MOST, block * PIECE_MOST + sizes[block]);
            }
        }

        int leave(int row) {
            for (int i = 0; i < rowSizes[row]; i++) {
                uses[rows[row * PIECES_MOST + i]]--;
            }
            numbers[row] = 0;
            rowSizes[row] = 0;
            snapshots--;
            return sweep();
        }

        int countBoth(int row, int other) {
            Arrays.fill(marks, 0);
            for (int i = 0; i < rowSizes[row]; i++) {
                marks[rows[row * PIECES_MOST + i]] |= 1;
            }
            for (int i = 0; i < rowSizes[other]; i++) {
                marks[rows[other * PIECES_MOST + i]] |= 2;
            }
            int many = 0;
            for (int b = 0; b < BLOCKS_MOST; b++) {
                if (marks[b] == 3) {
                    many++;
                }
            }
            return many;
        }
    }
}

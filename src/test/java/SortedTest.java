import java.util.Arrays;
import java.util.List;

/** Promises 13 and 14: PACKING and OPENING of SORTED. */
public final class SortedTest {
    public static void main(String[] args) {
        packBlocks();
        packRuns();
        packRotations();
        packCodes();
        packChoices();
        packEnd();
        heads();
        marks();
        signs();
        choices();
        sixCodes();
        lengths();
        symbols();
        longRows();
        byHand();
        origins();
        runs();
        most();
        ends();
        foreign();
        Check.end("SortedTest");
    }

    private static List<SortedBlock> blocks(byte[] text) {
        PackingHouse x = Check.house(text);
        x.pack(9, 0);
        return SortedBlock.all(Check.stream(x, 1));
    }

    private static SortedBlock block(byte[] text) {
        List<SortedBlock> all = blocks(text);
        Check.due("one block", all.size(), 1);
        return all.get(0);
    }

    private static void packBlocks() {
        Check.says("PACKING: blocks of 2000 octets of the text, the last one with fewer (none of 0)");
        Check.packs("none", 9, 0, Forms.NONE, Check.hex("425a683117724538509000000000"));
        for (int n : new int[] {1, 1999, 2000, 2001, 4000, 4001, 6000}) {
            byte[] text = Forms.filled(Forms.NONE, 2, n, n);
            PackingHouse x = new PackingHouse();
            x.fill(2, n, n);
            x.pack(9, 0);
            List<SortedBlock> all = SortedBlock.all(Check.stream(x, 1));
            Check.due("blocks of " + n, all.size(), (n + 1999) / 2000);
            for (int i = 0; i < all.size(); i++) {
                byte[] piece = Arrays.copyOfRange(text, 2000 * i, Math.min(n, 2000 * i + 2000));
                Check.due("TURNED of block " + i, all.get(i).turned, Forms.turned(piece));
            }
        }
    }

    private static void runsOf(String what, byte[] text, byte[] runs) {
        Check.due(what, block(text).runs, runs);
    }

    private static void packRuns() {
        Check.says("RUNS: four to 259 alike at once, within the block");
        runsOf("3", Check.times('a', 3), Check.octets("aaa"));
        runsOf("4", Check.times('a', 4), Check.octets("aaaa", 0));
        runsOf("5", Check.times('a', 5), Check.octets("aaaa", 1));
        runsOf("258", Check.times('a', 258), Check.octets("aaaa", 254));
        runsOf("259", Check.times('a', 259), Check.octets("aaaa", 255));
        runsOf("260", Check.times('a', 260), Check.octets("aaaa", 255, "a"));
        runsOf("262", Check.times('a', 262), Check.octets("aaaa", 255, "aaa"));
        runsOf("263", Check.times('a', 263), Check.octets("aaaa", 255, "aaaa", 0));
        runsOf("others between", Check.octets("aaabbbbcaaaa"), Check.octets("aaabbbb", 0, "caaaa", 0));
        List<SortedBlock> two = blocks(Check.octets(Forms.pairs(1997), "zzzzzz"));
        Check.due("three before the end of a block", two.get(0).runs, Check.octets(Forms.pairs(1997), "zzz"));
        Check.due("three behind it", two.get(1).runs, Check.octets("zzz"));
        two = blocks(Check.octets(Forms.pairs(1996), "zzzzzzzz"));
        Check.due("four before the end of a block", two.get(0).runs, Check.octets(Forms.pairs(1996), "zzzz", 0));
        Check.due("four behind it", two.get(1).runs, Check.octets("zzzz", 0));
    }

    private static void packRotations() {
        Check.says("all rotations of RUNS, sorted as octets (of the same ones the one that begins first), T their "
                + "last octets, ORIGIN the place of the one that begins at 0.");
        SortedBlock banana = block(Check.octets("banana"));
        Check.due("T", banana.row, Check.octets("nnbaaa"));
        Check.due("ORIGIN", banana.origin, 3);
        SortedBlock same = block(Check.octets("ababab"));
        Check.due("T of the same ones", same.row, Check.octets("bbbaaa"));
        Check.due("the one that begins at 0 is the first of three", same.origin, 0);
        same = block(Check.octets("bababa"));
        Check.due("the one that begins at 0 is the fourth", same.origin, 3);
        same = block(Check.octets("aaa"));
        Check.due("all the same", same.origin, 0);
        SortedBlock high = block(Check.octets(200, 100, 200, 50));
        Check.due("octets have no sign", high.row, Check.octets(200, 200, 100, 50));
        SortedBlock one = block(Check.octets("a"));
        Check.due("one", one.row, Check.octets("a"));
        Check.due("its ORIGIN", one.origin, 0);
        // every text of two octets up to some length, and what comes again and again
        for (int n = 2; n <= 9; n++) {
            for (int bits = 0; bits < 1 << n; bits++) {
                byte[] text = new byte[n];
                for (int i = 0; i < n; i++) {
                    text[i] = (byte) ('a' + (bits >> i & 1));
                }
                rotations(text);
            }
        }
        for (int seed = 0; seed < 60; seed++) {
            byte[] piece = Forms.filled(Forms.NONE, 1, 1 + seed % 9, seed);
            byte[] text = Forms.NONE;
            for (int i = 0; i <= seed % 7; i++) {
                text = Check.octets(text, piece);
            }
            rotations(text);
        }
    }

    private static void rotations(byte[] text) {
        SortedBlock block = block(text);
        String twice = new String(Check.octets(block.runs, block.runs), java.nio.charset.StandardCharsets.ISO_8859_1);
        int n = block.runs.length;
        List<Integer> order = new java.util.ArrayList<>();
        for (int i = 0; i < n; i++) {
            order.add(i);
        }
        // the sort of a list keeps those that are the same in their order
        order.sort(java.util.Comparator.comparing((Integer i) -> twice.substring(i, i + n)));
        StringBuilder row = new StringBuilder();
        for (int i : order) {
            row.append(twice.charAt(i + n - 1));
        }
        Check.due("T of " + twice.substring(n), block.row, Check.octets(row.toString()));
        Check.due("ORIGIN of " + twice.substring(n), block.origin, order.indexOf(0));
    }

    private static void packCodes() {
        Check.says("Two codes with the same lengths, by counts (of all symbols, m + 1 once; each at least 1), "
                + "limit 17");
        for (int n : new int[] {1, 2, 30, 500, 2000}) {
            for (int kind = 0; kind < 4; kind++) {
                SortedBlock block = block(Forms.filled(Forms.NONE, kind, n, n + kind));
                int[] counts = new int[block.signs.size() + 2];
                for (int s : block.symbols) {
                    counts[s]++;
                }
                Check.due("the end comes once", counts[counts.length - 1], 1);
                for (int s = 0; s < counts.length; s++) {
                    counts[s] = Math.max(1, counts[s]);
                }
                Check.due("two codes", block.codes, 2);
                for (int i = 0; i < 2; i++) {
                    Check.due("lengths of " + i, Arrays.toString(block.lengths.get(i)),
                            Arrays.toString(Forms.lengthsByCounts(counts, 17)));
                }
            }
        }
        Check.says("lengths told with the fewest bits.");
        int different = 0;
        for (int n : new int[] {1, 3, 30, 150, 500, 1000}) {
            SortedBlock block = block(n == 3 ? Check.octets("aaab") : Forms.filled(Forms.NONE, n % 4, n, n));
            int[] lengths = block.lengths.get(0);
            different += lengths[0] == lengths[1] ? 0 : 1;
            int bits = 5;
            for (int s = 0; s < lengths.length; s++) {
                bits += 1 + (s == 0 ? 0 : 2 * Math.abs(lengths[s] - lengths[s - 1]));
            }
            Check.due("of the first", block.lengthBits.get(0), bits);
            Check.due("of the second", block.lengthBits.get(1), bits);
        }
        Check.holds("the first two differ in some", different > 0);
    }

    private static void packChoices() {
        Check.says("CHOICES by turns 0, 1, 0, ..");
        for (int n : new int[] {1, 48, 49, 50, 51, 98, 99, 100, 101, 149, 150}) {
            // each octet once: each but the first is a symbol above 1; the last symbol is the end
            SortedBlock block = block(Forms.ramp(0, n));
            int many = (block.symbols.size() + 49) / 50;
            Check.due("how many of " + n, block.choices.size(), many);
            for (int i = 0; i < many; i++) {
                Check.due("choice " + i, block.choices.get(i), i == 0 ? 0 : 1);
            }
        }
        int fifty = 0;
        for (int n = 40; n < 160; n++) {
            fifty += block(Forms.ramp(0, n)).symbols.size() % 50 == 0 ? 1 : 0;
        }
        Check.holds("some have 50 symbols, or 100", fifty > 0);
        Check.says("then symbols, 50 by each choice.");
        Check.due("digits of many", block(Check.times(7, 1)).symbols.toString(), "[0, 2]");
        Check.due("digits of 3", block(Check.times(7, 3)).symbols.toString(), "[0, 0, 2]");
        Check.due("digits of 2", block(Check.times(7, 2)).symbols.toString(), "[1, 2]");
    }

    private static void packEnd() {
        Check.says("The end: 48 bits 0x177245385090, and 32 bits: for each block the number (0 at first) is "
                + "rotated left by 1, and that block's TURNED added bit by bit.");
        byte[] text = Forms.filled(Forms.NONE, 2, 4100, 6);
        PackingHouse x = Check.house(text);
        x.pack(9, 0);
        byte[] got = Check.stream(x, 1);
        int all = 0;
        for (int from = 0; from < 4100; from += 2000) {
            all = Integer.rotateLeft(all, 1) ^ (int) Forms.turned(Arrays.copyOfRange(text, from, Math.min(4100, from + 2000)));
        }
        List<SortedBlock> blocks = SortedBlock.all(got);
        int bit = blocks.get(2).end + 48;
        long told = 0;
        for (int i = bit; i < bit + 32; i++) {
            told = told << 1 | got[i / 8] >> 7 - i % 8 & 1;
        }
        Check.due("of three blocks", told, all & 0xFFFFFFFFL);
        Check.due("it is the last", (bit + 32 + 7) / 8, got.length);
        for (int i = bit + 32; i < 8 * got.length; i++) {
            Check.due("what is left", got[i / 8] >> 7 - i % 8 & 1, 0);
        }
    }

    private static void heads() {
        Check.says("RULES: 80 not 66, 90, 104, or L (each at once).");
        Check.faults("none", 9, Forms.NONE, 1, 0, 0);
        for (int i = 0; i < 3; i++) {
            byte[] head = Arrays.copyOf(Check.octets("BZh"), i + 1);
            head[i]++;
            Check.faults("octet " + i, 9, head, 80, i, 0);
        }
        Check.says("66, 90, 104, 48 + L (1 .. 9; PACKING: 1); blocks; the end.");
        byte[] none = Check.hex("17724538509000000000");
        for (int level : new int[] {48, 58, 0, 255}) {
            Check.faults("L " + (level - 48), 9, Check.octets("BZh", level), 80, 3, 0);
        }
        for (int level = 49; level <= 57; level++) {
            Check.opens("L " + (level - 48), 9, Check.octets("BZh", level, none), Forms.NONE);
        }
    }

    private static void marks() {
        Check.says("81 the 48 bits are neither.");
        Check.faults("the last bit", 9, Check.octets("BZh1", Check.hex("177245385091")), 81, 9, 0);
        Check.faults("the first bit", 9, Check.octets("BZh1", Check.hex("977245385090")), 81, 9, 0);
        Check.faults("of a block", 9, Check.octets("BZh1", Check.hex("314159265358")), 81, 9, 0);
        Check.faults("lack", 9, Check.octets("BZh1", Check.hex("1772453850")), 1, 9, 0);
        Check.says("82 the bit is 1.");
        BitRow row = Forms.sortedHead().number(0x314159265359L, 48).number(0, 32).number(1, 1);
        Check.faults("1", 9, row.octets(), 82, row.place(), 0);
        row = Forms.sortedHead().number(0x314159265359L, 48).number(0, 32);
        Check.faults("it lacks", 9, row.octets(), 1, 14, 0);
    }

    private static void signs() {
        Check.says("84 no octet is there.");
        BitRow row = Forms.sortedBegin(0, 0).number(0, 16);
        Check.faults("no sixteen", 9, row.octets(), 84, row.place(), 0);
        row = Forms.sortedBegin(0, 0).number(1, 16).number(0, 16);
        Check.faults("none of a sixteen", 9, row.octets(), 84, row.place(), 0);
        row = Forms.sortedBegin(0, 0).number(0xFFFF, 16).number(0, 64).number(0, 64).number(0, 64).number(0, 64);
        Check.faults("none of all sixteens", 9, row.octets(), 84, row.place(), 0);
        row = Forms.sortedBegin(0, 0).number(0x8001, 16).number(0, 16).number(1, 16).number(1, 3);
        Check.faults("255 alone", 9, row.octets(), 85, row.place(), 0);
        row = Forms.sortedBegin(0, 0).number(0x8001, 16).number(0, 16);
        Check.faults("a sixteen lacks", 9, row.octets(), 1, row.octets().length, 0);
        Check.says("85 codes not 2 .. 6, or no choices (each at once).");
        for (int codes = 0; codes < 8; codes++) {
            row = oneSign().number(codes, 3);
            int place = row.place();
            boolean fits = codes >= 2 && codes <= 6;
            Check.faults(codes + " codes", 9, row.octets(), fits ? 1 : 85, fits ? row.octets().length : place, 0);
        }
        row = oneSign().number(2, 3).number(0, 15);
        Check.faults("no choices", 9, row.octets(), 85, row.place(), 0);
        long all = Forms.turned(Check.octets(255));
        for (int choices : new int[] {1, 2, 32767}) {
            row = oneSign().number(2, 3).number(choices, 15).code("0".repeat(choices));
            row.number(2, 5).code("0" + "0" + "110").number(2, 5).code("0" + "0" + "110").code("10").code("0");
            Check.opens(choices + " choices", 9, Forms.sortedEnd(row, all).octets(), Check.octets(255));
        }
        // a block of six codes of one sign: the sixth is chosen
        row = oneSign().number(6, 3).number(1, 15).code("111110");
        for (int i = 0; i < 6; i++) {
            row.number(i == 5 ? 2 : 1, 5).code(i == 5 ? "0" + "0" + "110" : "0100" + "0");
        }
        long turned = Forms.turned(Check.octets(255));
        byte[] six = withTurned(row.code("10").code("0"), turned).octets();
        Check.opens("six codes", 9, six, Check.octets(255));
    }

    /** A block whose one sign is 255, up to how many codes there are. */
    private static BitRow oneSign() {
        return Forms.sortedBegin(Forms.turned(Check.octets(255)), 0).number(1, 16).number(1, 16);
    }

    private static BitRow withTurned(BitRow row, long turned) {
        return Forms.sortedEnd(row, turned);
    }

    private static void choices() {
        Check.says("86 as many 1s as there are codes.");
        for (int codes = 2; codes <= 6; codes++) {
            BitRow row = oneSign().number(codes, 3).number(1, 15).code("1".repeat(codes));
            Check.faults(codes + " of " + codes, 9, row.octets(), 86, row.place(), 0);
            row = oneSign().number(codes, 3).number(1, 15).code("1".repeat(codes - 1)).code("0").number(0, 5).code("0");
            Check.faults(codes - 1 + " of " + codes, 9, row.octets(), 87, row.place(), 0);
        }
        BitRow row = oneSign().number(2, 3).number(2, 15).code("10").code("11");
        Check.faults("the second one", 9, row.octets(), 86, row.place(), 0);
        Check.says("each tells a place in a row of the codes (at first in their order), of which it goes to the "
                + "front then, as so many 1s, and a 0");
        // three codes; choices 2, 2, 1: the third, the second, the third
        row = Forms.sortedBegin(0, 0).number(0x8000 >> 6, 16).number(0x6000, 16).number(3, 3).number(3, 15)
                .code("110").code("110").code("10");
        // symbols 0 .. 3: of the first code 3 has 1; of the second 1 has 1; of the third 2 has 1
        int[][] lengths = {{3, 3, 2, 1}, {3, 1, 3, 2}, {3, 3, 1, 2}};
        for (int[] some : lengths) {
            int told = some[0];
            row.number(told, 5);
            for (int n : some) {
                row.code(n > told ? "10".repeat(n - told) : "11".repeat(told - n)).code("0");
                told = n;
            }
        }
        // fifty times 2 by the third, fifty by the second (there 1 is 0), 2 and the end by the third
        row.code("0".repeat(50));
        String[] second = Forms.codes(lengths[1]);
        row.code(second[2].repeat(50));
        String[] third = Forms.codes(lengths[2]);
        row.code(third[2]).code(third[3]);
        told("the codes that are chosen", row, 90);
    }

    /** A block that was packed, written anew with six codes that are chosen in many ways. */
    private static void sixCodes() {
        Check.says("3 bits: how many codes, 2 .. 6; 15 bits: how many CHOICES; each tells a place in a row of the "
                + "codes (at first in their order), of which it goes to the front then, as so many 1s, and a 0");
        byte[] text = Forms.filled(Forms.NONE, 0, 1900, 4);
        for (int i = 0; i < text.length; i++) {
            // never four alike: so that SIGNS are 97 and 98 alone
            boolean three = i >= 3 && text[i - 1] == text[i - 2] && text[i - 2] == text[i - 3];
            text[i] = (byte) (three ? 195 - text[i - 1] : 'a' + (text[i] & 1));
        }
        SortedBlock block = block(text);
        int[][] lengths = {{1, 2, 3, 3}, {2, 1, 3, 3}, {3, 1, 2, 3}, {3, 3, 1, 2}, {2, 3, 1, 3}, {3, 2, 3, 1}};
        int many = (block.symbols.size() + 49) / 50;
        BitRow row = Forms.sortedBegin(block.turned, block.origin).number(0x8000 >> 6, 16).number(0x6000, 16).number(6, 3)
                .number(many, 15);
        List<Integer> order = new java.util.ArrayList<>(List.of(0, 1, 2, 3, 4, 5));
        int[] chosen = new int[many];
        for (int i = 0; i < many; i++) {
            int place = i * 7 % 11 % 6;
            row.code("1".repeat(place) + "0");
            chosen[i] = order.remove(place);
            order.add(0, chosen[i]);
        }
        for (int[] some : lengths) {
            int told = some[0];
            row.number(told, 5);
            for (int n : some) {
                row.code(n > told ? "10".repeat(n - told) : "11".repeat(told - n)).code("0");
                told = n;
            }
        }
        for (int i = 0; i < block.symbols.size(); i++) {
            row.code(Forms.codes(lengths[chosen[i / 50]])[block.symbols.get(i)]);
        }
        Check.holds("many choices", many > 10);
        Check.opens("all of them", 9, Forms.sortedEnd(row, block.turned).octets(), text);
    }

    /** A RULE that is told behind the last bit of a row, with more behind it. */
    private static void told(String what, BitRow row, int rule) {
        int place = row.place();
        PackingHouse x = Check.house(row.number(0, 9).octets());
        Check.due(what + ": open", x.open(9), -10 - rule);
        Check.due(what + ": PLACE", x.fault(1), place);
    }

    private static BitRow lengthRow() {
        return oneSign().number(2, 3).number(1, 15).code("0");
    }

    private static void lengths() {
        Check.says("87 a length that is not 1 .. 20, when it is that of a symbol");
        for (int length : new int[] {0, 21, 31}) {
            BitRow row = lengthRow().number(length, 5).code("0");
            Check.faults("length " + length, 9, row.octets(), 87, row.place(), 0);
        }
        BitRow row = lengthRow().number(20, 5).code("100");
        Check.faults("20 and one more", 9, row.octets(), 87, row.place(), 0);
        row = lengthRow().number(1, 5).code("110");
        Check.faults("1 and one less", 9, row.octets(), 87, row.place(), 0);
        row = lengthRow().number(1, 5).code("0").code("110");
        Check.faults("of the second symbol", 9, row.octets(), 87, row.place(), 0);
        row = lengthRow().number(20, 5).code("000").number(20, 5).code("000").code("1".repeat(20));
        Check.faults("three of 20", 9, row.octets(), 88, row.place(), 0);
        // on its way a length may be anything
        row = lengthRow().number(1, 5).code("1111111111" + "101010101010" + "0").code("00");
        told("from 1 down to -4 and up to 2", row.number(2, 5).code("000").code("11"), 88);
        row = lengthRow().number(20, 5).code("101010" + "1111111111" + "0").code("00");
        told("from 20 up to 23 and down to 18", row.number(2, 5).code("000").code("1".repeat(18)), 88);
        row = lengthRow().number(0, 5).code("100").code("100").code("0");
        told("from 0 up to 1", row.number(2, 5).code("000").code("11"), 83);
        Check.says("a code that is OVER, behind its lengths.");
        row = lengthRow().number(1, 5).code("0").code("0").code("0");
        Check.faults("three of 1", 9, row.octets(), 87, row.place(), 0);
        row = lengthRow().number(1, 5).code("0").code("0").code("10".repeat(19) + "0");
        Check.faults("two of 1 and one of 20", 9, row.octets(), 87, row.place(), 0);
        row = lengthRow().number(2, 5).code("000").number(1, 5).code("000");
        Check.faults("the second code", 9, row.octets(), 87, row.place(), 0);
    }

    private static void symbols() {
        Check.says("89 there is no choice for a symbol.");
        // fifty symbols by one choice, and no end
        BitRow row = Forms.sortedBlock(Forms.sortedHead(), 0, 0, 1).code("10".repeat(50));
        int place = row.place();
        Check.faults("the 51st", 9, row.number(0, 9).octets(), 89, place, 0);
        told("the 50th is the end", Forms.sortedBlock(Forms.sortedHead(), 0, 0, 1).code("10".repeat(49)).code("11"), 90);
        row = Forms.sortedBlock(Forms.sortedHead(), 0, 0, 2).code("10".repeat(100));
        place = row.place();
        Check.faults("the 101st", 9, row.number(0, 9).octets(), 89, place, 0);
        Check.says("88 bits that are no code (told as in KIND 3).");
        // one sign, lengths 2, 2, 2: 11 is no code
        row = lengthRow().number(2, 5).code("000").number(2, 5).code("000").code("11");
        place = row.place();
        Check.faults("behind 2 bits", 9, row.number(0, 9).octets(), 88, place, 0);
        // lengths 2, 2, 20: 11 .. is no code, told behind 20 bits
        row = lengthRow().number(2, 5).code("00").code("10".repeat(18) + "0").number(2, 5).code("000");
        row.code("1".repeat(20));
        place = row.place();
        Check.faults("behind 20 bits", 9, row.number(0, 9).octets(), 88, place, 0);
    }

    /** 'a' or 'b' so often as digits of 2 say, each behind the other by one more of them. */
    private static BitRow digits(BitRow row, int... digits) {
        for (int digit : digits) {
            row.code(digit == 1 ? "00" : "01");
        }
        return row;
    }

    private static int[] digitsOf(int number) {
        int[] all = new int[20];
        int n = 0;
        for (; number > 0; n++) {
            all[n] = 2 - number % 2;
            number = (number - all[n]) / 2;
        }
        return Arrays.copyOf(all, n);
    }

    private static void longRows() {
        Check.says("13 also when T would have more than 15000 octets (a run of which only a part fits: when its "
                + "number is whole; digits: as soon as the number is above 15000).");
        BitRow row = digits(Forms.sortedBlock(Forms.sortedHead(), 0, 0, 1), digitsOf(15000)).code("11");
        int place = row.place();
        // 15000 'a' are RUNS of four and 97 more each: 3000 of 101
        Check.faults("15000 fit", 9, row.number(0, 9).octets(), 13, place, 12000);
        int[] more = digitsOf(15001);
        row = digits(Forms.sortedBlock(Forms.sortedHead(), 0, 0, 1), more);
        place = row.place();
        Check.faults("15001", 9, row.number(0, 9).octets(), 13, place, 0);
        // digits of 2: twelve are 8190, thirteen 16382
        int[] twelve = new int[12];
        Arrays.fill(twelve, 2);
        row = digits(digits(Forms.sortedBlock(Forms.sortedHead(), 0, 0, 1), twelve), 2);
        place = row.place();
        Check.faults("as soon as it is above", 9, row.code("01").number(0, 9).octets(), 13, place, 0);
        // 8190, one more, 8190: when the second number is whole
        row = digits(Forms.sortedBlock(Forms.sortedHead(), 0, 0, 1), twelve).code("10");
        row = digits(row, twelve).code("11");
        place = row.place();
        Check.faults("whole by the end", 9, row.number(0, 9).octets(), 13, place, 0);
        row = digits(Forms.sortedBlock(Forms.sortedHead(), 0, 0, 1), twelve).code("10");
        row = digits(row, twelve).code("10");
        place = row.place();
        Check.faults("whole by another sign", 9, row.number(0, 9).octets(), 13, place, 0);
        // 15000, and one sign more
        row = digits(Forms.sortedBlock(Forms.sortedHead(), 0, 0, 1), digitsOf(15000)).code("10");
        place = row.place();
        Check.faults("one sign more", 9, row.number(0, 9).octets(), 13, place, 0);
        // 8190, one, 6809 are 15000
        row = digits(Forms.sortedBlock(Forms.sortedHead(), 0, 15000, 1), twelve).code("10");
        row = digits(row, digitsOf(6809)).code("11");
        place = row.place();
        Check.faults("15000 in all", 9, row.number(0, 9).octets(), 83, place, 0);
        row = digits(Forms.sortedBlock(Forms.sortedHead(), 0, 15000, 1), twelve).code("10");
        row = digits(row, digitsOf(6810)).code("11");
        place = row.place();
        Check.faults("15001 in all", 9, row.number(0, 9).octets(), 13, place, 0);
    }

    private static void byHand() {
        Check.says("A block: 48 bits 0x314159265359; 32 TURNED of the block's text; 1 bit, 0; 24 bits, the "
                + "ORIGIN; 16 bits, the highest first: which sixteens of octets are there; for each of these 16 "
                + "bits: which octets; these are SIGNS 0 .. m - 1 in their order; 3 bits: how many codes, 2 .. 6; "
                + "15 bits: how many CHOICES");
        byte[] edges = Check.octets(0, 15, 16, 255);
        SortedBlock block = block(edges);
        Check.due("SIGNS at the ends of sixteens", block.signs.toString(), "[0, 15, 16, 255]");
        Check.due("all SIGNS", block(Forms.ramp(0, 256)).signs.size(), 256);
        Check.due("one sign", block(Check.octets(255)).signs.toString(), "[255]");
        for (byte[] text : new byte[][] {edges, Forms.ramp(0, 256), Check.octets(255), Check.octets(0)}) {
            PackingHouse x = Check.house(text);
            Check.opens("they come back", 9, Check.stream(x, x.pack(9, 0)), text);
        }
        Check.says("the codes: 5 bits, a length; for each symbol of 0 .. m + 1 in turn: 0, it has that length; or "
                + "10: the length is more by 1, 11: less by 1, and on");
        // lengths 1, 2, 2, told from 3 on, up and down
        long turned = Forms.turned(Check.octets(255));
        BitRow row = lengthRow().number(3, 5).code("1111" + "0").code("101110" + "0").code("0").number(2, 5).code("000");
        Check.opens("up and down", 9, Forms.sortedEnd(row.code("0").code("11"), turned).octets(), Check.octets(255));
        Check.says("Symbols 0, 1: a number in digits of 1 and 2, the lowest first, how often the sign at the "
                + "front of a row of SIGNS (at first in their order) comes; 2 .. m: the sign at place 1 .. m - 1 "
                + "goes to the front, and comes; m + 1 ends the block.");
        for (int n = 1; n <= 3; n++) {
            byte[] text = Check.times('a', n);
            row = Forms.sortedBlock(Forms.sortedHead(), Forms.turned(text), 0, 1);
            Check.opens(n + " of the first sign", 9,
                    Forms.sortedEnd(digits(row, digitsOf(n)).code("11"), Forms.turned(text)).octets(), text);
        }
        byte[] b = Check.octets("b");
        row = Forms.sortedBlock(Forms.sortedHead(), Forms.turned(b), 0, 1).code("10").code("11");
        Check.opens("the second sign", 9, Forms.sortedEnd(row, Forms.turned(b)).octets(), b);
        byte[] bb = Check.octets("bbb");
        row = Forms.sortedBlock(Forms.sortedHead(), Forms.turned(bb), 0, 1).code("10").code("01").code("11");
        Check.opens("which is at the front then", 9, Forms.sortedEnd(row, Forms.turned(bb)).octets(), bb);
        Check.says("The row of these, T: the block's RUNS are had from ORIGIN: let the places of T be sorted by "
                + "their octets (of the same ones in their order); from entry ORIGIN of that order on, so often "
                + "as T has octets: the octet of T at the place that the entry names, and on with the entry of "
                + "that number.");
        // T 'ab': from 0 on only entry 0 comes, from 1 on only entry 1
        for (int origin = 0; origin < 2; origin++) {
            byte[] text = Check.times('a' + origin, 2);
            row = Forms.sortedBlock(Forms.sortedHead(), Forms.turned(text), origin, 1).code("00").code("10").code("11");
            Check.opens("entries that come again", 9, Forms.sortedEnd(row, Forms.turned(text)).octets(), text);
        }
    }

    /** A block with T = 'baa': the sign behind the front twice, the front one once, the end. */
    private static BitRow aba(long turned, int origin) {
        return Forms.sortedBlock(Forms.sortedHead(), turned, origin, 1).code("10").code("10").code("00").code("11");
    }

    private static void origins() {
        Check.says("Behind a block: 83 ORIGIN is not below how many T has");
        long turned = Forms.turned(Check.octets("aba"));
        Check.opens("aba", 9, Forms.sortedEnd(aba(turned, 1), turned).octets(), Check.octets("aba"));
        turned = Forms.turned(Check.octets("baa"));
        Check.opens("ORIGIN 2", 9, Forms.sortedEnd(aba(turned, 2), turned).octets(), Check.octets("baa"));
        turned = Forms.turned(Check.octets("aab"));
        Check.opens("ORIGIN 0", 9, Forms.sortedEnd(aba(turned, 0), turned).octets(), Check.octets("aab"));
        for (int origin : new int[] {3, 4, 0xFFFFFF}) {
            Check.faults("ORIGIN " + origin, 9, Forms.sortedEnd(aba(turned, origin), turned).octets(), 83,
                    aba(0, 0).place(), 0);
        }
        BitRow row = Forms.sortedBlock(Forms.sortedHead(), 0, 0, 1).code("11");
        int place = row.place();
        Check.faults("an empty block", 9, Forms.sortedEnd(row, 0).octets(), 83, place, 0);
        Check.says("90 the block's TURNED.");
        turned = Forms.turned(Check.octets("aba"));
        for (int bit : new int[] {0, 31}) {
            Check.faults("bit " + bit, 9, Forms.sortedEnd(aba(turned ^ 1L << bit, 1), turned).octets(), 90,
                    aba(0, 0).place(), 3);
        }
    }

    private static void runs() {
        Check.says("Of RUNS: four alike are followed by an octet, how many more come.");
        byte[] four = {97, 97, 97, 97};
        for (int more : new int[] {0, 1, 97, 255}) {
            byte[] text = Check.times('a', 4 + more);
            PackingHouse x = Check.house(text);
            byte[] packed = Check.stream(x, x.pack(9, 0));
            Check.due("its RUNS", SortedBlock.all(packed).get(0).runs, Check.octets(four, more));
            Check.opens(more + " more", 9, packed, text);
        }
        // behind the octet it begins anew: 'aaaa' 1 'aaa' are eight
        byte[] text = Check.times('a', 260);
        PackingHouse x = Check.house(text);
        Check.opens("anew behind it", 9, Check.stream(x, x.pack(9, 0)), text);
        Check.says("92 four alike without an octet behind them (what comes before comes out; 13)");
        // symbols 1, 0 are 2 + 2
        long turned = Forms.turned(four);
        BitRow row = Forms.sortedBlock(Forms.sortedHead(), turned, 0, 1).code("01").code("00").code("11");
        int place = row.place();
        Check.faults("four", 9, Forms.sortedEnd(row, turned).octets(), 92, place, 4);
        // five: the fifth is how many more come, 97
        byte[] many = Check.times('a', 101);
        turned = Forms.turned(many);
        row = Forms.sortedBlock(Forms.sortedHead(), turned, 0, 1).code("00").code("01").code("11");
        Check.opens("five", 9, Forms.sortedEnd(row, turned).octets(), many);
        // nine: four, 97 more, and four
        row = Forms.sortedBlock(Forms.sortedHead(), 0, 0, 1);
        digits(row, digitsOf(9)).code("11");
        place = row.place();
        Check.faults("nine", 9, Forms.sortedEnd(row, 0).octets(), 92, place, 105);
        turned = Forms.turned(Check.times('a', 104));
        row = Forms.sortedBlock(Forms.sortedHead(), turned, 0, 1);
        Check.opens("eight", 9, Forms.sortedEnd(digits(row, digitsOf(8)).code("11"), turned).octets(),
                Check.times('a', 104));
    }

    private static void most() {
        Check.says("92 four alike without an octet behind them (what comes before comes out; 13)");
        // 5 * 118 are 118 * 101 = 11918; 4 more and 78 of 97 make 12000
        BitRow row = digits(Forms.sortedBlock(Forms.sortedHead(), 0, 0, 1), digitsOf(5 * 118 + 4)).code("11");
        int place = row.place();
        Check.faults("92 behind 11922", 9, row.number(0, 9).octets(), 92, place, 11922);
        row = digits(Forms.sortedBlock(Forms.sortedHead(), 0, 0, 1), digitsOf(5 * 118 + 5)).code("11");
        place = row.place();
        Check.faults("13", 9, row.number(0, 9).octets(), 13, place, 12000);
        row = digits(Forms.sortedBlock(Forms.sortedHead(), 0, 0, 1), digitsOf(5 * 118 + 9)).code("11");
        place = row.place();
        Check.faults("13 comes before 92", 9, row.number(0, 9).octets(), 13, place, 12000);
        byte[] text = Check.times('a', 11918);
        row = digits(Forms.sortedBlock(Forms.sortedHead(), Forms.turned(text), 0, 1), digitsOf(5 * 118)).code("11");
        Check.opens("11918", 9, Forms.sortedEnd(row, Forms.turned(text)).octets(), text);
    }

    private static void ends() {
        Check.says("91 that of all. 14.");
        Check.opens("none", 9, Check.octets("BZh1", Check.hex("17724538509000000000")), Forms.NONE);
        for (int bit : new int[] {0, 31}) {
            Check.faults("of all, bit " + bit, 9,
                    Forms.sortedEnd(Forms.sortedHead(), 1L << bit).octets(), 91, 13, 0);
        }
        long turned = Forms.turned(Check.octets("aba"));
        BitRow row = Forms.sortedEnd(aba(turned, 1), turned ^ 1);
        Check.faults("of one block", 9, row.octets(), 91, row.place(), 3);
        row = Forms.sortedBlock(aba(turned, 1), turned, 1, 1).code("10").code("10").code("00").code("11");
        long both = (turned << 1 | turned >> 31) & 0xFFFFFFFFL ^ turned;
        String two = row.text();
        Check.opens("of two blocks", 9, Forms.sortedEnd(row, both).octets(), Check.octets("abaaba"));
        Check.faults("not rotated", 9, Forms.sortedEnd(BitRow.high().code(two), 0).octets(), 91,
                Forms.sortedEnd(BitRow.high().code(two), 0).place(), 6);
        Check.says("Behind it octets end.");
        Check.faults("left", 9, Check.octets("BZh1", Check.hex("1772453850900000000000")), 14, 14, 0);
        Check.faults("lack", 9, Check.octets("BZh1", Check.hex("177245385090000000")), 1, 13, 0);
        Check.says("a reader does not look at it.");
        byte[] octets = Forms.sortedEnd(aba(turned, 1), turned).octets();
        Check.opens("bits behind the end", 9, Forms.with(octets, octets.length - 1,
                octets[octets.length - 1] | (1 << 7 - Forms.sortedEnd(aba(0, 0), 0).size() % 8) - 1), Check.octets("aba"));
    }

    private static void foreign() {
        Check.says("KIND 9, SORTED: a HIGH ROW.");
        Check.opens("bzip2", 9, Check.hex("425a68393141592653596f4f10f3000005d100001040000244a00030c002a834710dad"
                + "870f1772453850906f4f10f3"), Check.octets("hello hello hello hello\n"));
    }
}

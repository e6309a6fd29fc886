import java.util.ArrayList;
import java.util.Arrays;
import java.util.List;

/** A block of SORTED, read bit by bit, without a look at its RULES. */
final class SortedBlock {
    final long turned;
    final int origin;
    final int codes;
    final List<Integer> signs = new ArrayList<>();
    final List<Integer> choices = new ArrayList<>();
    final List<int[]> lengths = new ArrayList<>();
    /** How many bits each code's lengths are told with. */
    final List<Integer> lengthBits = new ArrayList<>();
    final List<Integer> symbols = new ArrayList<>();
    final byte[] row;
    final byte[] runs;
    /** The number of the bit behind the block. */
    final int end;
    private final byte[] octets;
    private int next;

    /** All blocks of a text. */
    static List<SortedBlock> all(byte[] octets) {
        List<SortedBlock> blocks = new ArrayList<>();
        int bit = 32;
        while (numberAt(octets, bit, 48) == 0x314159265359L) {
            blocks.add(new SortedBlock(octets, bit));
            bit = blocks.get(blocks.size() - 1).end;
        }
        Check.due("the end", numberAt(octets, bit, 48), 0x177245385090L);
        return blocks;
    }

    private SortedBlock(byte[] octets, int bit) {
        this.octets = octets;
        next = bit + 48;
        turned = number(32);
        Check.due("the bit", number(1), 0);
        origin = (int) number(24);
        long sixteens = number(16);
        for (int s = 0; s < 16; s++) {
            long there = (sixteens >> 15 - s & 1) == 1 ? number(16) : 0;
            for (int v = 0; v < 16; v++) {
                if ((there >> 15 - v & 1) == 1) {
                    signs.add(16 * s + v);
                }
            }
        }
        codes = (int) number(3);
        long many = number(15);
        for (int i = 0; i < many; i++) {
            int ones = 0;
            for (; number(1) == 1; ones++) {
            }
            choices.add(ones);
        }
        for (int i = 0; i < codes; i++) {
            lengths.add(readLengths());
        }
        readSymbols();
        row = rowOfSymbols();
        runs = runsOfRow();
        end = next;
    }

    private static long numberAt(byte[] octets, int bit, int n) {
        long v = 0;
        for (int i = bit; i < bit + n; i++) {
            v = v << 1 | octets[i / 8] >> 7 - i % 8 & 1;
        }
        return v;
    }

    private long number(int n) {
        next += n;
        return numberAt(octets, next - n, n);
    }

    private int[] readLengths() {
        int begin = next;
        int[] all = new int[signs.size() + 2];
        int told = (int) number(5);
        for (int s = 0; s < all.length; s++) {
            while (number(1) == 1) {
                told += number(1) == 0 ? 1 : -1;
            }
            all[s] = told;
        }
        lengthBits.add(next - begin);
        return all;
    }

    private void readSymbols() {
        List<Integer> order = new ArrayList<>();
        for (int i = 0; i < codes; i++) {
            order.add(i);
        }
        String[] code = {};
        int s = -1;
        while (s != signs.size() + 1) {
            if (symbols.size() % 50 == 0) {
                int which = order.remove((int) choices.get(symbols.size() / 50));
                order.add(0, which);
                code = Forms.codes(lengths.get(which));
            }
            String read = "";
            do {
                read += number(1);
                s = Arrays.asList(code).indexOf(read);
            } while (s < 0);
            symbols.add(s);
        }
    }

    private byte[] rowOfSymbols() {
        List<Integer> order = new ArrayList<>(signs);
        List<Integer> all = new ArrayList<>();
        int worth = 1;
        int many = 0;
        for (int s : symbols) {
            if (s < 2) {
                many += worth * (s + 1);
                worth *= 2;
                continue;
            }
            for (; many > 0; many--) {
                all.add(order.get(0));
            }
            worth = 1;
            if (s <= signs.size()) {
                order.add(0, order.remove(s - 1));
                all.add(order.get(0));
            }
        }
        return octets(all);
    }

    private static byte[] octets(List<Integer> all) {
        byte[] some = new byte[all.size()];
        for (int i = 0; i < some.length; i++) {
            some[i] = (byte) (int) all.get(i);
        }
        return some;
    }

    private byte[] runsOfRow() {
        List<Integer> order = new ArrayList<>();
        for (int v = 0; v < 256; v++) {
            for (int i = 0; i < row.length; i++) {
                if ((row[i] & 255) == v) {
                    order.add(i);
                }
            }
        }
        byte[] all = new byte[row.length];
        int entry = order.get(origin);
        for (int i = 0; i < all.length; i++) {
            all[i] = row[entry];
            entry = order.get(entry);
        }
        return all;
    }
}

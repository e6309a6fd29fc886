import java.io.IOException;
import java.lang.reflect.InvocationTargetException;
import java.lang.reflect.Method;
import java.nio.file.Files;
import java.nio.file.Path;
import java.util.HashMap;
import java.util.List;
import java.util.Map;
import java.util.stream.Collectors;
import java.util.stream.Stream;
import java.util.zip.CRC32;

/**
 * Plays the runs under src/test/runs. Their answers were made by two programs in another language (those of the
 * second are named second-*), each written anew from the document alone and checked against zlib, gzip, bzip2 and
 * lz4; what they open and read are forms made by hand, each with one thing or more that does not hold.
 */
public final class RunsTest {
    private static final Map<String, Method> FACE = new HashMap<>();

    public static void main(String[] args) throws Exception {
        for (Method method : PackingHouse.class.getMethods()) {
            if (method.getDeclaringClass() == PackingHouse.class) {
                FACE.put(method.getName(), method);
            }
        }
        List<Path> files;
        try (Stream<Path> all = Files.list(Path.of("src/test/runs"))) {
            files = all.filter(f -> f.toString().endsWith(".txt")).sorted().collect(Collectors.toList());
        }
        for (Path file : files) {
            play(file);
        }
        Check.end("RunsTest");
    }

    private static void play(Path file) throws IOException, ReflectiveOperationException {
        PackingHouse house = new PackingHouse();
        int number = 0;
        for (String line : Files.readAllLines(file)) {
            number++;
            String where = file.getFileName() + ":" + number + ": " + line;
            if (line.equals("new")) {
                house = new PackingHouse();
            } else if (line.startsWith("tray")) {
                Check.tray(house, Check.hex(line.substring(4).trim()));
            } else if (!line.startsWith("#")) {
                String[] sides = line.split(" = ");
                Check.due(where, answer(house, sides[0].split(" ")), sides[1]);
            }
        }
    }

    private static String answer(PackingHouse house, String[] words) throws ReflectiveOperationException {
        if (words[0].equals("dump")) {
            byte[] octets = Check.stream(house, Integer.parseInt(words[1]));
            CRC32 sum = new CRC32();
            sum.update(octets);
            return octets.length + ":" + String.format("%08x", sum.getValue());
        }
        Method method = FACE.get(words[0]);
        Class<?>[] types = method.getParameterTypes();
        Object[] values = new Object[types.length];
        for (int i = 0; i < types.length; i++) {
            if (types[i] == long.class) {
                values[i] = Long.parseLong(words[i + 1]);
            } else {
                values[i] = Integer.parseInt(words[i + 1]);
            }
        }
        try {
            return String.valueOf(method.invoke(house, values));
        } catch (InvocationTargetException thrown) {
            return "thrown: " + thrown.getCause();
        }
    }
}

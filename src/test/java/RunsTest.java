import java.io.IOException;
import java.nio.charset.StandardCharsets;
import java.nio.file.Files;
import java.nio.file.Path;

/** All promises but feed and cut together: the runs of src/test/data/runs.txt. */
public final class RunsTest {
    public static void main(String[] args) throws IOException {
        Probe p = new Probe();
        int number = 0;
        for (String line : Files.readAllLines(Path.of("src/test/data/runs.txt"), StandardCharsets.ISO_8859_1)) {
            number++;
            if (!line.startsWith("#")) {
                int tab = line.indexOf('\t');
                String call = line.substring(0, tab);
                if (call.equals("new")) {
                    p = new Probe();
                }
                long answer = make(p, call);
                Probe.due("line " + number + ", " + call, answer + " " + state(p), line.substring(tab + 1));
            }
        }
        Probe.end("RunsTest");
    }

    private static long make(Probe p, String call) {
        String[] words = call.split(" ");
        switch (words[0]) {
            case "stream":
                return p.x.stream(Integer.parseInt(words[1]));
            case "query":
                return p.ask(call.substring("query ".length()));
            case "row":
                Object[] values = new Object[words.length - 3];
                for (int i = 3; i < words.length; i++) {
                    values[i - 3] = words[i].equals("null") ? null : Long.valueOf(words[i]);
                }
                return p.row(Integer.parseInt(words[1]), Long.parseLong(words[2]), values);
            case "back":
                return p.x.back(Integer.parseInt(words[1]), Integer.parseInt(words[2])) ? 1 : 0;
            case "watermark":
                return p.x.watermark(Long.parseLong(words[1]));
            default:
                return 0;
        }
    }

    private static String state(Probe p) {
        StringBuilder all = new StringBuilder("f").append(p.x.fault()).append(" ");
        if (p.x.told(5) == 1) {
            all.append("t");
            for (int c = 0; p.x.type(c) != 0; c++) {
                all.append(p.x.type(c));
            }
            all.append(" A").append(withoutEnd(p.answer())).append(" C").append(withoutEnd(p.changes()).replace("+", ""));
            for (int what = 2; what <= 5; what++) {
                all.append(" ").append(p.x.told(what));
            }
        }
        return all.append(" ").append(p.x.told(0)).append(" ").append(p.x.told(1)).toString();
    }

    private static String withoutEnd(String rows) {
        return rows.isEmpty() ? rows : rows.substring(0, rows.length() - 1);
    }
}

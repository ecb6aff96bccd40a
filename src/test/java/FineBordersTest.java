import java.io.IOException;
import java.math.BigInteger;
import java.nio.file.Files;
import java.nio.file.Path;

/** The fine numbers to their last units, seen from outside: src/test/data/borders.txt says how. */
public final class FineBordersTest {
    private static final Path ROWS = Path.of("src/test/data/borders.txt");
    private static final String[][] SENTENCES = {
        {"exp", "Q is P and 64; EXP(t) .. n is the least number .. PARTS .. up to the first that is 0 or - 1"},
        {"log", "Q is P and 64; ROW(w) .. HYPER(w) .. LOG(t) .. k is the number (perhaps below 0)"},
        {"arc", "Q is P and 64; ROW(w) .. ARC(w) .. PI .. ROOT(v) .. ATAN(t) .. for t below 0 .. for t above 2^Q"},
        {"sine", "Q is P and 64; PI .. SIN(t) .. up to the first that is 0 .. minus that for odd n"},
        {"cosine", "SIN(the middle 2^64 + (PI : 2)) : 2^64"}};

    private static final Check check = new Check();

    public static void main(String[] args) throws IOException {
        for (String[] sentence : SENTENCES) {
            check.about(sentence[1]);
            for (String row : Files.readAllLines(ROWS)) {
                if (row.startsWith(sentence[0] + " ")) {
                    row(row);
                }
            }
        }
        check.end("FineBordersTest");
    }

    private static void row(String row) {
        String[] words = row.split(" ");
        BallDesk desk = new BallDesk(Integer.parseInt(words[1]));
        desk.set(0, Long.parseLong(words[2]), Long.parseLong(words[3]));
        desk.widen(0, Long.parseLong(words[4]));
        int from = 0;
        if (words.length == 8) {
            // Joined with a point, a ball that is wider by two parts has a middle that is one less.
            desk.set(1, Long.parseLong(words[5]), 1);
            desk.join(2, 0, 1);
            from = 2;
        }
        check.due(row, call(desk, words[0], from), 1);
        BigInteger middle = new BigInteger(words[words.length - 2]);
        check.ball(row, desk, 3, middle, new BigInteger(words[words.length - 1]));
    }

    private static int call(BallDesk desk, String name, int from) {
        switch (name) {
            case "exp": return desk.exp(3, from);
            case "log": return desk.log(3, from);
            case "arc": return desk.arc(3, from);
            default: return desk.sine(3, from, name.equals("cosine"));
        }
    }
}
